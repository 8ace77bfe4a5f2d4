/-! methods as functions, by program -/
def f_Memory_firstRef (x : Int32) (X : XS) : Option Int32 := ((f_Memory_word x X).bind fun x1 => (if 0 ≤ x1 ∧ x1 ≤ 9 then some ((x + 4) + (2 * (X.1 45 x1.toNatClampNeg))) else some (x + 5)))
set_option maxRecDepth 100000 in
set_option maxHeartbeats 4000000 in
theorem s_Memory_firstRef {L : Nat} {xs : Nat → Int32} {X : XS} {M : MS} {x : Int32} : Sp (mjOO L xs) 219 0 [some (.ref 41), some (.int x), none] [] (hS X M) (f_Memory_firstRef x X) (KQ (hS X M)) := by
  unfold f_Memory_firstRef
  refine Sp.step rfl rfl rfl rfl ?_
  refine Sp.step rfl rfl rfl rfl ?_
  refine Sp.call rfl rfl rfl (xrecv (c := 4) (by decide) rfl (by decide +kernel)) s_Memory_word (fun x1 => ⟨_, _, ⟨rfl, rfl⟩, ?_⟩)
  refine Sp.id (pc := 5) (l := [some (.ref 41), some (.int x), none]) (st := [.int x1]) (h := hS X M) ?_
  refine Sp.step rfl rfl rfl rfl ?_
  refine Sp.step rfl rfl rfl rfl ?_
  refine Sp.step rfl rfl rfl rfl ?_
  refine Sp.step rfl rfl rfl rfl ?_
  refine Sp.callP rfl rfl rfl rfl s_within (fun e2 => ?_) (fun e2 => ?_)
  · refine Sp.id (pc := 13) (l := [some (.ref 41), some (.int x), some (.int x1)]) (st := [.int 1]) (h := hS X M) ?_
    refine Sp.step rfl rfl rfl rfl ?_
    refine Sp.step rfl rfl rfl rfl ?_
    refine Sp.step rfl rfl rfl rfl ?_
    refine Sp.step rfl rfl rfl rfl ?_
    refine Sp.step rfl rfl rfl rfl ?_
    refine Sp.step rfl rfl rfl rfl ?_
    refine Sp.step rfl rfl rfl (xg_F (c := 4) (f := 4) rfl rfl rfl rfl rfl) ?_
    refine Sp.step rfl rfl rfl rfl ?_
    refine Sp.step rfl rfl rfl (xld rfl (by decide) (ix_le (N := 9) rfl e2.1 e2.2)) ?_
    refine Sp.step rfl rfl rfl rfl ?_
    refine Sp.step rfl rfl rfl rfl ?_
    refine Sp.step rfl rfl rfl rfl ?_
    exact Sp.iret rfl rfl rfl rfl (fun _ _ h => h)
  · refine Sp.id (pc := 13) (l := [some (.ref 41), some (.int x), some (.int x1)]) (st := [.int 0]) (h := hS X M) ?_
    refine Sp.step rfl rfl rfl rfl ?_
    refine Sp.step rfl rfl rfl rfl ?_
    refine Sp.step rfl rfl rfl rfl ?_
    refine Sp.step rfl rfl rfl rfl ?_
    exact Sp.iret rfl rfl rfl rfl (fun _ _ h => h)
def f_Memory_refsIn (x : Int32) (X : XS) : Option Int32 := ((f_Memory_word x X).bind fun x1 => (if 0 ≤ x1 ∧ x1 ≤ 9 then some (X.1 46 x1.toNatClampNeg) else (if ¬ x1 = 255 then some 0 else ((f_Memory_word (x + 4) X).bind fun x6 => some x6))))
set_option maxRecDepth 100000 in
set_option maxHeartbeats 4000000 in
theorem s_Memory_refsIn {L : Nat} {xs : Nat → Int32} {X : XS} {M : MS} {x : Int32} : Sp (mjOO L xs) 220 0 [some (.ref 41), some (.int x), none] [] (hS X M) (f_Memory_refsIn x X) (KQ (hS X M)) := by
  unfold f_Memory_refsIn
  refine Sp.step rfl rfl rfl rfl ?_
  refine Sp.step rfl rfl rfl rfl ?_
  refine Sp.call rfl rfl rfl (xrecv (c := 4) (by decide) rfl (by decide +kernel)) s_Memory_word (fun x1 => ⟨_, _, ⟨rfl, rfl⟩, ?_⟩)
  refine Sp.id (pc := 5) (l := [some (.ref 41), some (.int x), none]) (st := [.int x1]) (h := hS X M) ?_
  refine Sp.step rfl rfl rfl rfl ?_
  refine Sp.step rfl rfl rfl rfl ?_
  refine Sp.step rfl rfl rfl rfl ?_
  refine Sp.step rfl rfl rfl rfl ?_
  refine Sp.callP rfl rfl rfl rfl s_within (fun e2 => ?_) (fun e2 => ?_)
  · refine Sp.id (pc := 13) (l := [some (.ref 41), some (.int x), some (.int x1)]) (st := [.int 1]) (h := hS X M) ?_
    refine Sp.step rfl rfl rfl rfl ?_
    refine Sp.step rfl rfl rfl rfl ?_
    refine Sp.step rfl rfl rfl (xg_F (c := 4) (f := 5) rfl rfl rfl rfl rfl) ?_
    refine Sp.step rfl rfl rfl rfl ?_
    refine Sp.step rfl rfl rfl (xld rfl (by decide) (ix_le (N := 9) rfl e2.1 e2.2)) ?_
    exact Sp.iret rfl rfl rfl rfl (fun _ _ h => h)
  · refine Sp.id (pc := 13) (l := [some (.ref 41), some (.int x), some (.int x1)]) (st := [.int 0]) (h := hS X M) ?_
    refine Sp.step rfl rfl rfl rfl ?_
    refine Sp.step rfl rfl rfl rfl ?_
    refine Sp.step rfl rfl rfl rfl ?_
    refine Sp.if2 rfl rfl rfl rfl (fun e5 => ?_) (fun e5 => ?_)
    · refine Sp.step rfl rfl rfl rfl ?_
      exact Sp.iret rfl rfl rfl rfl (fun _ _ h => h)
    · refine Sp.step rfl rfl rfl rfl ?_
      refine Sp.step rfl rfl rfl rfl ?_
      refine Sp.step rfl rfl rfl rfl ?_
      refine Sp.step rfl rfl rfl rfl ?_
      refine Sp.call rfl rfl rfl (xrecv (c := 4) (by decide) rfl (by decide +kernel)) s_Memory_word (fun x6 => ⟨_, _, ⟨rfl, rfl⟩, ?_⟩)
      refine Sp.id (pc := 37) (l := [some (.ref 41), some (.int x), some (.int x1)]) (st := [.int x6]) (h := hS X M) ?_
      refine Sp.step rfl rfl rfl rfl ?_
      exact Sp.iret rfl rfl rfl rfl (fun _ _ h => h)
def f_Memory_sizeAt (x : Int32) (X : XS) : Option Int32 := ((f_Memory_word x X).bind fun x1 => ((f_Memory_word (x + 4) X).bind fun x2 => some (f_Memory_wordsFor x1 x2 X)))
set_option maxRecDepth 100000 in
set_option maxHeartbeats 4000000 in
theorem s_Memory_sizeAt {L : Nat} {xs : Nat → Int32} {X : XS} {M : MS} {x : Int32} : Sp (mjOO L xs) 221 0 [some (.ref 41), some (.int x)] [] (hS X M) (f_Memory_sizeAt x X) (KQ (hS X M)) := by
  unfold f_Memory_sizeAt
  refine Sp.step rfl rfl rfl rfl ?_
  refine Sp.step rfl rfl rfl rfl ?_
  refine Sp.step rfl rfl rfl rfl ?_
  refine Sp.call rfl rfl rfl (xrecv (c := 4) (by decide) rfl (by decide +kernel)) s_Memory_word (fun x1 => ⟨_, _, ⟨rfl, rfl⟩, ?_⟩)
  refine Sp.id (pc := 6) (l := [some (.ref 41), some (.int x)]) (st := [.int x1, .ref 41]) (h := hS X M) ?_
  refine Sp.step rfl rfl rfl rfl ?_
  refine Sp.step rfl rfl rfl rfl ?_
  refine Sp.step rfl rfl rfl rfl ?_
  refine Sp.step rfl rfl rfl rfl ?_
  refine Sp.call rfl rfl rfl (xrecv (c := 4) (by decide) rfl (by decide +kernel)) s_Memory_word (fun x2 => ⟨_, _, ⟨rfl, rfl⟩, ?_⟩)
  refine Sp.id (pc := 13) (l := [some (.ref 41), some (.int x)]) (st := [.int x2, .int x1, .ref 41]) (h := hS X M) ?_
  refine Sp.callS rfl rfl rfl (xrecv (c := 4) (by decide) rfl (by decide +kernel)) s_Memory_wordsFor ⟨rfl, rfl⟩ ?_
  refine Sp.id (pc := 16) (l := [some (.ref 41), some (.int x)]) (st := [.int (f_Memory_wordsFor x1 x2 X)]) (h := hS X M) ?_
  exact Sp.iret rfl rfl rfl rfl (fun _ _ h => h)
def b44_Memory_plan (x41 : Int32) (x47 : Int32) (x52 : (Int32 × XS)) : Option ((Int32 × XS) ⊕ (Int32 × XS)) := (if x47 ≤ x52.1 then some (.inr (x52.1, x52.2)) else ((f_Memory_word (x41 + x52.1) x52.2).bind fun x54 => ((f_Memory_mark x54 x52.2).bind fun x55 => some (.inl (x52.1 + 1, x55)))))
def b2_Memory_plan (x29 : (Int32 × XS)) : Option ((Int32 × XS) ⊕ (Int32 × XS)) := (if x29.2.1 41 6 ≤ x29.1 then some (.inr (x29.1, x29.2)) else (ocz (x29.2.2.1 41 2) none (fun a31 => (ocz (xL x29.2 0 a31) none (fun n33 => (if Int32.ofNat n33 ≤ x29.1 then some (.inr (x29.1, x29.2)) else (ocz (x29.2.2.1 41 2) none (fun a36 => (ocz (xL x29.2 0 a36) none (fun n38 => (if ixo x29.1 n38 then ((f_Memory_firstRef (x29.2.1 a36 x29.1.toNatClampNeg) x29.2).bind fun x41 => (ocz (x29.2.2.1 41 2) none (fun a42 => (ocz (xL x29.2 0 a42) none (fun n44 => (if ixo x29.1 n44 then ((f_Memory_refsIn (x29.2.1 a42 x29.1.toNatClampNeg) x29.2).bind fun x47 => ((lp (b44_Memory_plan x41 x47) 10000 ((0 : Int32), x29.2)).bind fun x56 => some (.inl (x29.1 + 1, x56.2)))) else none)))))) else none)))))))))))
def b78_Memory_plan (x66 : (Int32 × Int32 × XS)) : Option ((Int32 × Int32 × XS) ⊕ (Int32 × Int32 × XS)) := (if x66.2.2.1 41 7 ≤ x66.2.1 then some (.inr (x66.1, x66.2.1, x66.2.2)) else ((f_Memory_word (x66.2.1 + 3) x66.2.2).bind fun x68 => (if x68 = 0 then ((f_Memory_sizeAt x66.2.1 x66.2.2).bind fun x70 => some (.inl (x66.1, x66.2.1 + (if 4 < x70 then x70 else 4), x66.2.2))) else ((f_Memory_setWord (x66.2.1 + 3) x66.1 x66.2.2).bind fun x71 => ((f_Memory_sizeAt x66.2.1 x71).bind fun x72 => ((f_Memory_sizeAt x66.2.1 x71).bind fun x73 => some (.inl (x66.1 + x72, x66.2.1 + (if 4 < x73 then x73 else 4), x71))))))))
def f_Memory_plan (X : XS) : Option XS := ((lp (b2_Memory_plan) 10000 ((0 : Int32), X)).bind fun x57 => ((lp (b78_Memory_plan) 10000 ((1 : Int32), (1 : Int32), x57.2)).bind fun x74 => some x74.2.2))
set_option maxRecDepth 100000 in
set_option maxHeartbeats 4000000 in
theorem s_Memory_plan {L : Nat} {xs : Nat → Int32} {X : XS} {M : MS} : Sp (mjOO L xs) 225 0 [some (.ref 41), none, none, none, none] [] (hS X M) (f_Memory_plan X) (KVX M) := by
  unfold f_Memory_plan
  refine Sp.step rfl rfl rfl rfl ?_
  refine Sp.step rfl rfl rfl rfl ?_
  refine Sp.weak (l0 := [some (.ref 41), some (.int 0), none, none, none]) ⟨rfl, rfl, trivial⟩ ?_
  refine Sp.loopX (pe := 74) (mf := (fun (x29 : (Int32 × XS)) => [some (.ref 41), some (.int x29.1), none, none, none])) (hf := (fun (x29 : (Int32 × XS)) => hS x29.2 M)) (fun x29 => ?_) (fun x57 => ?_) _ _
  · unfold b2_Memory_plan
    refine Sp.step rfl rfl rfl rfl ?_
    refine Sp.step rfl rfl rfl rfl ?_
    refine Sp.step rfl rfl rfl (xg_I (c := 4) (f := 6) rfl rfl rfl rfl) ?_
    refine Sp.if2 rfl rfl rfl rfl (fun e30 => ?_) (fun e30 => ?_)
    · exact Sp.jmp (l0 := [some (.ref 41), some (.int x29.1), none, none, none]) ⟨rfl, rfl, trivial⟩ (fun _ _ h => h)
    · refine Sp.step rfl rfl rfl rfl ?_
      refine Sp.step rfl rfl rfl rfl ?_
      refine Sp.step rfl rfl rfl (xg_D (c := 4) (f := 2) rfl rfl rfl rfl rfl) ?_
      refine Sp.ocrn (fun a31 e32 => ?_)
      refine Sp.ocn (fun n33 e34 => ?_)
      refine Sp.step rfl rfl rfl (xlen (xL_ok e34) (by decide)) ?_
      refine Sp.if2 rfl rfl rfl rfl (fun e35 => ?_) (fun e35 => ?_)
      · exact Sp.jmp (l0 := [some (.ref 41), some (.int x29.1), none, none, none]) ⟨rfl, rfl, trivial⟩ (fun _ _ h => h)
      · refine Sp.step rfl rfl rfl rfl ?_
        refine Sp.step rfl rfl rfl rfl ?_
        refine Sp.step rfl rfl rfl (xg_D (c := 4) (f := 2) rfl rfl rfl rfl rfl) ?_
        refine Sp.ocrn (fun a36 e37 => ?_)
        refine Sp.step rfl rfl rfl rfl ?_
        refine Sp.ocn (fun n38 e39 => ?_)
        refine Sp.guard (fun e40 => ?_)
        refine Sp.step rfl rfl rfl (xld (xL_ok e39) (by decide) e40) ?_
        refine Sp.call rfl rfl rfl (xrecv (c := 4) (by decide) rfl (by decide +kernel)) s_Memory_firstRef (fun x41 => ⟨_, _, ⟨rfl, rfl⟩, ?_⟩)
        refine Sp.id (pc := 29) (l := [some (.ref 41), some (.int x29.1), none, none, none]) (st := [.int x41]) (h := hS x29.2 M) ?_
        refine Sp.step rfl rfl rfl rfl ?_
        refine Sp.step rfl rfl rfl rfl ?_
        refine Sp.step rfl rfl rfl rfl ?_
        refine Sp.step rfl rfl rfl (xg_D (c := 4) (f := 2) rfl rfl rfl rfl rfl) ?_
        refine Sp.ocrn (fun a42 e43 => ?_)
        refine Sp.step rfl rfl rfl rfl ?_
        refine Sp.ocn (fun n44 e45 => ?_)
        refine Sp.guard (fun e46 => ?_)
        refine Sp.step rfl rfl rfl (xld (xL_ok e45) (by decide) e46) ?_
        refine Sp.call rfl rfl rfl (xrecv (c := 4) (by decide) rfl (by decide +kernel)) s_Memory_refsIn (fun x47 => ⟨_, _, ⟨rfl, rfl⟩, ?_⟩)
        refine Sp.id (pc := 40) (l := [some (.ref 41), some (.int x29.1), some (.int x41), none, none]) (st := [.int x47]) (h := hS x29.2 M) ?_
        refine Sp.step rfl rfl rfl rfl ?_
        refine Sp.step rfl rfl rfl rfl ?_
        refine Sp.step rfl rfl rfl rfl ?_
        refine Sp.weak (l0 := [some (.ref 41), some (.int x29.1), some (.int x41), some (.int x47), some (.int 0)]) ⟨rfl, rfl, rfl, rfl, rfl, trivial⟩ ?_
        refine Sp.loopX (pe := 68) (mf := (fun (x52 : (Int32 × XS)) => [some (.ref 41), some (.int x29.1), some (.int x41), some (.int x47), some (.int x52.1)])) (hf := (fun (x52 : (Int32 × XS)) => hS x52.2 M)) (fun x52 => ?_) (fun x56 => ?_) _ _
        · unfold b44_Memory_plan
          refine Sp.step rfl rfl rfl rfl ?_
          refine Sp.step rfl rfl rfl rfl ?_
          refine Sp.if2 rfl rfl rfl rfl (fun e53 => ?_) (fun e53 => ?_)
          · exact Sp.jmp (l0 := [some (.ref 41), some (.int x29.1), some (.int x41), some (.int x47), some (.int x52.1)]) ⟨rfl, rfl, rfl, rfl, rfl, trivial⟩ (fun _ _ h => h)
          · refine Sp.step rfl rfl rfl rfl ?_
            refine Sp.step rfl rfl rfl rfl ?_
            refine Sp.step rfl rfl rfl rfl ?_
            refine Sp.step rfl rfl rfl rfl ?_
            refine Sp.step rfl rfl rfl rfl ?_
            refine Sp.call rfl rfl rfl (xrecv (c := 4) (by decide) rfl (by decide +kernel)) s_Memory_word (fun x54 => ⟨_, _, ⟨rfl, rfl⟩, ?_⟩)
            refine Sp.id (pc := 59) (l := [some (.ref 41), some (.int x29.1), some (.int x41), some (.int x47), some (.int x52.1)]) (st := [.int x54, .ref 41]) (h := hS x52.2 M) ?_
            refine Sp.call rfl rfl rfl (xrecv (c := 4) (by decide) rfl (by decide +kernel)) s_Memory_mark (fun x55 => ⟨_, _, ⟨rfl, rfl⟩, ?_⟩)
            refine Sp.id (pc := 62) (l := [some (.ref 41), some (.int x29.1), some (.int x41), some (.int x47), some (.int x52.1)]) (st := []) (h := hS x55 M) ?_
            refine Sp.step rfl rfl rfl rfl ?_
            refine Sp.step rfl rfl rfl rfl ?_
            exact Sp.jmp (l0 := [some (.ref 41), some (.int x29.1), some (.int x41), some (.int x47), some (.int (x52.1 + 1))]) ⟨rfl, rfl, rfl, rfl, rfl, trivial⟩ (fun _ _ h => h)
        · refine Sp.step rfl rfl rfl rfl ?_
          refine Sp.step rfl rfl rfl rfl ?_
          exact Sp.jmp (l0 := [some (.ref 41), some (.int (x29.1 + 1)), none, none, none]) ⟨rfl, rfl, trivial⟩ (fun _ _ h => h)
  · refine Sp.step rfl rfl rfl rfl ?_
    refine Sp.step rfl rfl rfl rfl ?_
    refine Sp.step rfl rfl rfl rfl ?_
    refine Sp.step rfl rfl rfl rfl ?_
    refine Sp.weak (l0 := [some (.ref 41), some (.int 1), some (.int 1), none, none]) ⟨rfl, rfl, rfl, trivial⟩ ?_
    refine Sp.loopX (pe := 127) (mf := (fun (x66 : (Int32 × Int32 × XS)) => [some (.ref 41), some (.int x66.1), some (.int x66.2.1), none, none])) (hf := (fun (x66 : (Int32 × Int32 × XS)) => hS x66.2.2 M)) (fun x66 => ?_) (fun x74 => ?_) _ _
    · unfold b78_Memory_plan
      refine Sp.step rfl rfl rfl rfl ?_
      refine Sp.step rfl rfl rfl rfl ?_
      refine Sp.step rfl rfl rfl (xg_I (c := 4) (f := 7) rfl rfl rfl rfl) ?_
      refine Sp.if2 rfl rfl rfl rfl (fun e67 => ?_) (fun e67 => ?_)
      · exact Sp.jmp (l0 := [some (.ref 41), some (.int x66.1), some (.int x66.2.1), none, none]) ⟨rfl, rfl, rfl, trivial⟩ (fun _ _ h => h)
      · refine Sp.step rfl rfl rfl rfl ?_
        refine Sp.step rfl rfl rfl rfl ?_
        refine Sp.step rfl rfl rfl rfl ?_
        refine Sp.step rfl rfl rfl rfl ?_
        refine Sp.call rfl rfl rfl (xrecv (c := 4) (by decide) rfl (by decide +kernel)) s_Memory_word (fun x68 => ⟨_, _, ⟨rfl, rfl⟩, ?_⟩)
        refine Sp.id (pc := 93) (l := [some (.ref 41), some (.int x66.1), some (.int x66.2.1), none, none]) (st := [.int x68]) (h := hS x66.2.2 M) ?_
        refine Sp.if1 rfl rfl rfl rfl (fun e69 => ?_) (fun e69 => ?_)
        · refine Sp.step rfl rfl rfl rfl ?_
          refine Sp.step rfl rfl rfl rfl ?_
          refine Sp.step rfl rfl rfl rfl ?_
          refine Sp.step rfl rfl rfl rfl ?_
          refine Sp.call rfl rfl rfl (xrecv (c := 4) (by decide) rfl (by decide +kernel)) s_Memory_sizeAt (fun x70 => ⟨_, _, ⟨rfl, rfl⟩, ?_⟩)
          refine Sp.id (pc := 119) (l := [some (.ref 41), some (.int x66.1), some (.int x66.2.1), none, none]) (st := [.int x70, .int 4, .int x66.2.1]) (h := hS x66.2.2 M) ?_
          refine Sp.nat rfl rfl rfl rfl ⟨by decide, by decide, rfl⟩ ?_
          refine Sp.step rfl rfl rfl rfl ?_
          refine Sp.step rfl rfl rfl rfl ?_
          refine Sp.step rfl rfl rfl rfl ?_
          exact Sp.jmp (l0 := [some (.ref 41), some (.int x66.1), some (.int (x66.2.1 + (if 4 < x70 then x70 else 4))), none, none]) ⟨rfl, rfl, rfl, trivial⟩ (fun _ _ h => h)
        · refine Sp.step rfl rfl rfl rfl ?_
          refine Sp.step rfl rfl rfl rfl ?_
          refine Sp.step rfl rfl rfl rfl ?_
          refine Sp.step rfl rfl rfl rfl ?_
          refine Sp.step rfl rfl rfl rfl ?_
          refine Sp.call rfl rfl rfl (xrecv (c := 4) (by decide) rfl (by decide +kernel)) s_Memory_setWord (fun x71 => ⟨_, _, ⟨rfl, rfl⟩, ?_⟩)
          refine Sp.id (pc := 104) (l := [some (.ref 41), some (.int x66.1), some (.int x66.2.1), none, none]) (st := []) (h := hS x71 M) ?_
          refine Sp.step rfl rfl rfl rfl ?_
          refine Sp.step rfl rfl rfl rfl ?_
          refine Sp.step rfl rfl rfl rfl ?_
          refine Sp.call rfl rfl rfl (xrecv (c := 4) (by decide) rfl (by decide +kernel)) s_Memory_sizeAt (fun x72 => ⟨_, _, ⟨rfl, rfl⟩, ?_⟩)
          refine Sp.id (pc := 110) (l := [some (.ref 41), some (.int x66.1), some (.int x66.2.1), none, none]) (st := [.int x72, .int x66.1]) (h := hS x71 M) ?_
          refine Sp.step rfl rfl rfl rfl ?_
          refine Sp.step rfl rfl rfl rfl ?_
          refine Sp.step rfl rfl rfl rfl ?_
          refine Sp.step rfl rfl rfl rfl ?_
          refine Sp.step rfl rfl rfl rfl ?_
          refine Sp.step rfl rfl rfl rfl ?_
          refine Sp.call rfl rfl rfl (xrecv (c := 4) (by decide) rfl (by decide +kernel)) s_Memory_sizeAt (fun x73 => ⟨_, _, ⟨rfl, rfl⟩, ?_⟩)
          refine Sp.id (pc := 119) (l := [some (.ref 41), some (.int (x66.1 + x72)), some (.int x66.2.1), none, none]) (st := [.int x73, .int 4, .int x66.2.1]) (h := hS x71 M) ?_
          refine Sp.nat rfl rfl rfl rfl ⟨by decide, by decide, rfl⟩ ?_
          refine Sp.step rfl rfl rfl rfl ?_
          refine Sp.step rfl rfl rfl rfl ?_
          refine Sp.step rfl rfl rfl rfl ?_
          exact Sp.jmp (l0 := [some (.ref 41), some (.int (x66.1 + x72)), some (.int (x66.2.1 + (if 4 < x73 then x73 else 4))), none, none]) ⟨rfl, rfl, rfl, trivial⟩ (fun _ _ h => h)
    · exact Sp.vret rfl rfl rfl (fun _ _ h => h)
def f_Memory_forwarded (x : Int32) (X : XS) : Option Int32 := (if ¬ x = 0 then ((f_Memory_word (x + 3) X).bind fun x2 => some x2) else some 0)
set_option maxRecDepth 100000 in
set_option maxHeartbeats 4000000 in
theorem s_Memory_forwarded {L : Nat} {xs : Nat → Int32} {X : XS} {M : MS} {x : Int32} : Sp (mjOO L xs) 227 0 [some (.ref 41), some (.int x)] [] (hS X M) (f_Memory_forwarded x X) (KQ (hS X M)) := by
  unfold f_Memory_forwarded
  refine Sp.step rfl rfl rfl rfl ?_
  refine Sp.if1 rfl rfl rfl rfl (fun e1 => ?_) (fun e1 => ?_)
  · refine Sp.step rfl rfl rfl rfl ?_
    refine Sp.step rfl rfl rfl rfl ?_
    refine Sp.step rfl rfl rfl rfl ?_
    refine Sp.step rfl rfl rfl rfl ?_
    refine Sp.call rfl rfl rfl (xrecv (c := 4) (by decide) rfl (by decide +kernel)) s_Memory_word (fun x2 => ⟨_, _, ⟨rfl, rfl⟩, ?_⟩)
    refine Sp.id (pc := 15) (l := [some (.ref 41), some (.int x)]) (st := [.int x2]) (h := hS X M) ?_
    exact Sp.iret rfl rfl rfl rfl (fun _ _ h => h)
  · refine Sp.step rfl rfl rfl rfl ?_
    refine Sp.step rfl rfl rfl rfl ?_
    exact Sp.iret rfl rfl rfl rfl (fun _ _ h => h)
def b3_Memory_forwardRow_57_58 (x : Int32) (x9 : (Int32 × XS)) : Option ((Int32 × XS) ⊕ (Int32 × XS)) := (if x ≤ x9.1 then some (.inr (x9.1, x9.2)) else (if 8 ≤ x9.1 then some (.inr (x9.1, x9.2)) else (if ixo x9.1 8 then (if x9.2.1 58 x9.1.toNatClampNeg = 0 then some (.inl (x9.1 + 1, x9.2)) else ((f_Memory_forwarded (x9.2.1 57 x9.1.toNatClampNeg) x9.2).bind fun x15 => (lt (xw x9.2 57 x9.1.toNatClampNeg x15) fun X16 => some (.inl (x9.1 + 1, X16))))) else none)))
def f_Memory_forwardRow_57_58 (x : Int32) (X : XS) : Option XS := ((lp (b3_Memory_forwardRow_57_58 x) 10000 ((0 : Int32), X)).bind fun x17 => some x17.2)
set_option maxRecDepth 100000 in
set_option maxHeartbeats 4000000 in
theorem s_Memory_forwardRow_57_58 {L : Nat} {xs : Nat → Int32} {X : XS} {M : MS} {x : Int32} : Sp (mjOO L xs) 226 0 [some (.ref 41), some (.ref 57), some (.ref 58), some (.int x), none] [] (hS X M) (f_Memory_forwardRow_57_58 x X) (KVX M) := by
  unfold f_Memory_forwardRow_57_58
  refine Sp.step rfl rfl rfl rfl ?_
  refine Sp.step rfl rfl rfl rfl ?_
  refine Sp.weak (l0 := [some (.ref 41), some (.ref 57), some (.ref 58), some (.int x), some (.int 0)]) ⟨rfl, rfl, rfl, rfl, rfl, trivial⟩ ?_
  refine Sp.loopX (pe := 48) (mf := (fun (x9 : (Int32 × XS)) => [some (.ref 41), some (.ref 57), some (.ref 58), some (.int x), some (.int x9.1)])) (hf := (fun (x9 : (Int32 × XS)) => hS x9.2 M)) (fun x9 => ?_) (fun x17 => ?_) _ _
  · unfold b3_Memory_forwardRow_57_58
    refine Sp.step rfl rfl rfl rfl ?_
    refine Sp.step rfl rfl rfl rfl ?_
    refine Sp.if2 rfl rfl rfl rfl (fun e10 => ?_) (fun e10 => ?_)
    · exact Sp.jmp (l0 := [some (.ref 41), some (.ref 57), some (.ref 58), some (.int x), some (.int x9.1)]) ⟨rfl, rfl, rfl, rfl, rfl, trivial⟩ (fun _ _ h => h)
    · refine Sp.step rfl rfl rfl rfl ?_
      refine Sp.step rfl rfl rfl rfl ?_
      refine Sp.step rfl rfl rfl (xlen rfl (by decide)) ?_
      refine Sp.if2 rfl rfl rfl rfl (fun e11 => ?_) (fun e11 => ?_)
      · exact Sp.jmp (l0 := [some (.ref 41), some (.ref 57), some (.ref 58), some (.int x), some (.int x9.1)]) ⟨rfl, rfl, rfl, rfl, rfl, trivial⟩ (fun _ _ h => h)
      · refine Sp.step rfl rfl rfl rfl ?_
        refine Sp.step rfl rfl rfl rfl ?_
        refine Sp.step rfl rfl rfl (xlen rfl (by decide)) ?_
        refine Sp.prune (c := 8 ≤ x9.1) ?_
        refine Sp.if2 rfl rfl rfl rfl (fun e12 => absurd e12 e11) (fun e12 => ?_)
        refine Sp.step rfl rfl rfl rfl ?_
        refine Sp.step rfl rfl rfl rfl ?_
        refine Sp.guard (fun e13 => ?_)
        refine Sp.step rfl rfl rfl (xld rfl (by decide) e13) ?_
        refine Sp.if1 rfl rfl rfl rfl (fun e14 => ?_) (fun e14 => ?_)
        · refine Sp.step rfl rfl rfl rfl ?_
          refine Sp.step rfl rfl rfl rfl ?_
          exact Sp.jmp (l0 := [some (.ref 41), some (.ref 57), some (.ref 58), some (.int x), some (.int (x9.1 + 1))]) ⟨rfl, rfl, rfl, rfl, rfl, trivial⟩ (fun _ _ h => h)
        · refine Sp.step rfl rfl rfl rfl ?_
          refine Sp.step rfl rfl rfl rfl ?_
          refine Sp.step rfl rfl rfl rfl ?_
          refine Sp.step rfl rfl rfl rfl ?_
          refine Sp.step rfl rfl rfl rfl ?_
          refine Sp.step rfl rfl rfl (xld rfl (by decide) e13) ?_
          refine Sp.call rfl rfl rfl (xrecv (c := 4) (by decide) rfl (by decide +kernel)) s_Memory_forwarded (fun x15 => ⟨_, _, ⟨rfl, rfl⟩, ?_⟩)
          refine Sp.id (pc := 41) (l := [some (.ref 41), some (.ref 57), some (.ref 58), some (.int x), some (.int x9.1)]) (st := [.int x15, .int x9.1, .ref 57]) (h := hS x9.2 M) ?_
          refine Sp.step rfl rfl rfl (xst rfl (by decide) e13) ?_
          refine Sp.step rfl rfl rfl rfl ?_
          refine Sp.step rfl rfl rfl rfl ?_
          exact Sp.jmp (l0 := [some (.ref 41), some (.ref 57), some (.ref 58), some (.int x), some (.int (x9.1 + 1))]) ⟨rfl, rfl, rfl, rfl, rfl, trivial⟩ (fun _ _ h => h)
  · exact Sp.vret rfl rfl rfl (fun _ _ h => h)
def b3_Memory_forwardRow (x : Nat) (y : Nat) (z : Int32) (x14 : (Int32 × XS)) : Option ((Int32 × XS) ⊕ (Int32 × XS)) := (if z ≤ x14.1 then some (.inr (x14.1, x14.2)) else (ocz (xL x14.2 0 x) none (fun n16 => (if Int32.ofNat n16 ≤ x14.1 then some (.inr (x14.1, x14.2)) else (ocz (xL x14.2 0 y) none (fun n19 => (if Int32.ofNat n19 ≤ x14.1 then some (.inr (x14.1, x14.2)) else (if ixo x14.1 n19 then (if x14.2.1 y x14.1.toNatClampNeg = 0 then some (.inl (x14.1 + 1, x14.2)) else (if ixo x14.1 n16 then ((f_Memory_forwarded (x14.2.1 x x14.1.toNatClampNeg) x14.2).bind fun x25 => (lt (xw x14.2 x x14.1.toNatClampNeg x25) fun X26 => some (.inl (x14.1 + 1, X26)))) else none)) else none))))))))
def f_Memory_forwardRow (x : Nat) (y : Nat) (z : Int32) (X : XS) : Option XS := ((lp (b3_Memory_forwardRow x y z) 10000 ((0 : Int32), X)).bind fun x27 => some x27.2)
set_option maxRecDepth 100000 in
set_option maxHeartbeats 4000000 in
theorem s_Memory_forwardRow {L : Nat} {xs : Nat → Int32} {X : XS} {M : MS} {x : Nat} {y : Nat} {z : Int32} : Sp (mjOO L xs) 226 0 [some (.ref 41), some (.ref x), some (.ref y), some (.int z), none] [] (hS X M) (f_Memory_forwardRow x y z X) (KVX M) := by
  unfold f_Memory_forwardRow
  refine Sp.step rfl rfl rfl rfl ?_
  refine Sp.step rfl rfl rfl rfl ?_
  refine Sp.weak (l0 := [some (.ref 41), some (.ref x), some (.ref y), some (.int z), some (.int 0)]) ⟨rfl, rfl, rfl, rfl, rfl, trivial⟩ ?_
  refine Sp.loopX (pe := 48) (mf := (fun (x14 : (Int32 × XS)) => [some (.ref 41), some (.ref x), some (.ref y), some (.int z), some (.int x14.1)])) (hf := (fun (x14 : (Int32 × XS)) => hS x14.2 M)) (fun x14 => ?_) (fun x27 => ?_) _ _
  · unfold b3_Memory_forwardRow
    refine Sp.step rfl rfl rfl rfl ?_
    refine Sp.step rfl rfl rfl rfl ?_
    refine Sp.if2 rfl rfl rfl rfl (fun e15 => ?_) (fun e15 => ?_)
    · exact Sp.jmp (l0 := [some (.ref 41), some (.ref x), some (.ref y), some (.int z), some (.int x14.1)]) ⟨rfl, rfl, rfl, rfl, rfl, trivial⟩ (fun _ _ h => h)
    · refine Sp.step rfl rfl rfl rfl ?_
      refine Sp.step rfl rfl rfl rfl ?_
      refine Sp.ocn (fun n16 e17 => ?_)
      refine Sp.step rfl rfl rfl (xlen (xL_ok e17) (by decide)) ?_
      refine Sp.if2 rfl rfl rfl rfl (fun e18 => ?_) (fun e18 => ?_)
      · exact Sp.jmp (l0 := [some (.ref 41), some (.ref x), some (.ref y), some (.int z), some (.int x14.1)]) ⟨rfl, rfl, rfl, rfl, rfl, trivial⟩ (fun _ _ h => h)
      · refine Sp.step rfl rfl rfl rfl ?_
        refine Sp.step rfl rfl rfl rfl ?_
        refine Sp.ocn (fun n19 e20 => ?_)
        refine Sp.step rfl rfl rfl (xlen (xL_ok e20) (by decide)) ?_
        refine Sp.if2 rfl rfl rfl rfl (fun e21 => ?_) (fun e21 => ?_)
        · exact Sp.jmp (l0 := [some (.ref 41), some (.ref x), some (.ref y), some (.int z), some (.int x14.1)]) ⟨rfl, rfl, rfl, rfl, rfl, trivial⟩ (fun _ _ h => h)
        · refine Sp.step rfl rfl rfl rfl ?_
          refine Sp.step rfl rfl rfl rfl ?_
          refine Sp.guard (fun e22 => ?_)
          refine Sp.step rfl rfl rfl (xld (xL_ok e20) (by decide) e22) ?_
          refine Sp.if1 rfl rfl rfl rfl (fun e23 => ?_) (fun e23 => ?_)
          · refine Sp.step rfl rfl rfl rfl ?_
            refine Sp.step rfl rfl rfl rfl ?_
            exact Sp.jmp (l0 := [some (.ref 41), some (.ref x), some (.ref y), some (.int z), some (.int (x14.1 + 1))]) ⟨rfl, rfl, rfl, rfl, rfl, trivial⟩ (fun _ _ h => h)
          · refine Sp.step rfl rfl rfl rfl ?_
            refine Sp.step rfl rfl rfl rfl ?_
            refine Sp.step rfl rfl rfl rfl ?_
            refine Sp.step rfl rfl rfl rfl ?_
            refine Sp.step rfl rfl rfl rfl ?_
            refine Sp.guard (fun e24 => ?_)
            refine Sp.step rfl rfl rfl (xld (xL_ok e17) (by decide) e24) ?_
            refine Sp.call rfl rfl rfl (xrecv (c := 4) (by decide) rfl (by decide +kernel)) s_Memory_forwarded (fun x25 => ⟨_, _, ⟨rfl, rfl⟩, ?_⟩)
            refine Sp.id (pc := 41) (l := [some (.ref 41), some (.ref x), some (.ref y), some (.int z), some (.int x14.1)]) (st := [.int x25, .int x14.1, .ref x]) (h := hS x14.2 M) ?_
            refine Sp.step rfl rfl rfl (xst (xL_ok e17) (by decide) e24) ?_
            refine Sp.step rfl rfl rfl rfl ?_
            refine Sp.step rfl rfl rfl rfl ?_
            exact Sp.jmp (l0 := [some (.ref 41), some (.ref x), some (.ref y), some (.int z), some (.int (x14.1 + 1))]) ⟨rfl, rfl, rfl, rfl, rfl, trivial⟩ (fun _ _ h => h)
  · exact Sp.vret rfl rfl rfl (fun _ _ h => h)
def b44_Memory_forwardFields (x43 : Int32) (x49 : Int32) (x55 : (Int32 × XS)) : Option ((Int32 × XS) ⊕ (Int32 × XS)) := (if x49 ≤ x55.1 then some (.inr (x55.1, x55.2)) else ((f_Memory_word (x43 + x55.1) x55.2).bind fun x57 => ((f_Memory_forwarded x57 x55.2).bind fun x58 => ((f_Memory_setWord (x43 + x55.1) x58 x55.2).bind fun x59 => some (.inl (x55.1 + 1, x59))))))
def b2_Memory_forwardFields (x31 : (Int32 × XS)) : Option ((Int32 × XS) ⊕ (Int32 × XS)) := (if x31.2.1 41 6 ≤ x31.1 then some (.inr (x31.1, x31.2)) else (ocz (x31.2.2.1 41 2) none (fun a33 => (ocz (xL x31.2 0 a33) none (fun n35 => (if Int32.ofNat n35 ≤ x31.1 then some (.inr (x31.1, x31.2)) else (ocz (x31.2.2.1 41 2) none (fun a38 => (ocz (xL x31.2 0 a38) none (fun n40 => (if ixo x31.1 n40 then ((f_Memory_firstRef (x31.2.1 a38 x31.1.toNatClampNeg) x31.2).bind fun x43 => (ocz (x31.2.2.1 41 2) none (fun a44 => (ocz (xL x31.2 0 a44) none (fun n46 => (if ixo x31.1 n46 then ((f_Memory_refsIn (x31.2.1 a44 x31.1.toNatClampNeg) x31.2).bind fun x49 => ((lp (b44_Memory_forwardFields x43 x49) 10000 ((0 : Int32), x31.2)).bind fun x60 => some (.inl (x31.1 + 1, x60.2)))) else none)))))) else none)))))))))))
def f_Memory_forwardFields (X : XS) : Option XS := ((lp (b2_Memory_forwardFields) 10000 ((0 : Int32), X)).bind fun x61 => some x61.2)
set_option maxRecDepth 100000 in
set_option maxHeartbeats 4000000 in
theorem s_Memory_forwardFields {L : Nat} {xs : Nat → Int32} {X : XS} {M : MS} : Sp (mjOO L xs) 229 0 [some (.ref 41), none, none, none, none] [] (hS X M) (f_Memory_forwardFields X) (KVX M) := by
  unfold f_Memory_forwardFields
  refine Sp.step rfl rfl rfl rfl ?_
  refine Sp.step rfl rfl rfl rfl ?_
  refine Sp.weak (l0 := [some (.ref 41), some (.int 0), none, none, none]) ⟨rfl, rfl, trivial⟩ ?_
  refine Sp.loopX (pe := 82) (mf := (fun (x31 : (Int32 × XS)) => [some (.ref 41), some (.int x31.1), none, none, none])) (hf := (fun (x31 : (Int32 × XS)) => hS x31.2 M)) (fun x31 => ?_) (fun x61 => ?_) _ _
  · unfold b2_Memory_forwardFields
    refine Sp.step rfl rfl rfl rfl ?_
    refine Sp.step rfl rfl rfl rfl ?_
    refine Sp.step rfl rfl rfl (xg_I (c := 4) (f := 6) rfl rfl rfl rfl) ?_
    refine Sp.if2 rfl rfl rfl rfl (fun e32 => ?_) (fun e32 => ?_)
    · exact Sp.jmp (l0 := [some (.ref 41), some (.int x31.1), none, none, none]) ⟨rfl, rfl, trivial⟩ (fun _ _ h => h)
    · refine Sp.step rfl rfl rfl rfl ?_
      refine Sp.step rfl rfl rfl rfl ?_
      refine Sp.step rfl rfl rfl (xg_D (c := 4) (f := 2) rfl rfl rfl rfl rfl) ?_
      refine Sp.ocrn (fun a33 e34 => ?_)
      refine Sp.ocn (fun n35 e36 => ?_)
      refine Sp.step rfl rfl rfl (xlen (xL_ok e36) (by decide)) ?_
      refine Sp.if2 rfl rfl rfl rfl (fun e37 => ?_) (fun e37 => ?_)
      · exact Sp.jmp (l0 := [some (.ref 41), some (.int x31.1), none, none, none]) ⟨rfl, rfl, trivial⟩ (fun _ _ h => h)
      · refine Sp.step rfl rfl rfl rfl ?_
        refine Sp.step rfl rfl rfl rfl ?_
        refine Sp.step rfl rfl rfl (xg_D (c := 4) (f := 2) rfl rfl rfl rfl rfl) ?_
        refine Sp.ocrn (fun a38 e39 => ?_)
        refine Sp.step rfl rfl rfl rfl ?_
        refine Sp.ocn (fun n40 e41 => ?_)
        refine Sp.guard (fun e42 => ?_)
        refine Sp.step rfl rfl rfl (xld (xL_ok e41) (by decide) e42) ?_
        refine Sp.call rfl rfl rfl (xrecv (c := 4) (by decide) rfl (by decide +kernel)) s_Memory_firstRef (fun x43 => ⟨_, _, ⟨rfl, rfl⟩, ?_⟩)
        refine Sp.id (pc := 29) (l := [some (.ref 41), some (.int x31.1), none, none, none]) (st := [.int x43]) (h := hS x31.2 M) ?_
        refine Sp.step rfl rfl rfl rfl ?_
        refine Sp.step rfl rfl rfl rfl ?_
        refine Sp.step rfl rfl rfl rfl ?_
        refine Sp.step rfl rfl rfl (xg_D (c := 4) (f := 2) rfl rfl rfl rfl rfl) ?_
        refine Sp.ocrn (fun a44 e45 => ?_)
        refine Sp.step rfl rfl rfl rfl ?_
        refine Sp.ocn (fun n46 e47 => ?_)
        refine Sp.guard (fun e48 => ?_)
        refine Sp.step rfl rfl rfl (xld (xL_ok e47) (by decide) e48) ?_
        refine Sp.call rfl rfl rfl (xrecv (c := 4) (by decide) rfl (by decide +kernel)) s_Memory_refsIn (fun x49 => ⟨_, _, ⟨rfl, rfl⟩, ?_⟩)
        refine Sp.id (pc := 40) (l := [some (.ref 41), some (.int x31.1), some (.int x43), none, none]) (st := [.int x49]) (h := hS x31.2 M) ?_
        refine Sp.step rfl rfl rfl rfl ?_
        refine Sp.step rfl rfl rfl rfl ?_
        refine Sp.step rfl rfl rfl rfl ?_
        refine Sp.weak (l0 := [some (.ref 41), some (.int x31.1), some (.int x43), some (.int x49), some (.int 0)]) ⟨rfl, rfl, rfl, rfl, rfl, trivial⟩ ?_
        refine Sp.loopX (pe := 76) (mf := (fun (x55 : (Int32 × XS)) => [some (.ref 41), some (.int x31.1), some (.int x43), some (.int x49), some (.int x55.1)])) (hf := (fun (x55 : (Int32 × XS)) => hS x55.2 M)) (fun x55 => ?_) (fun x60 => ?_) _ _
        · unfold b44_Memory_forwardFields
          refine Sp.step rfl rfl rfl rfl ?_
          refine Sp.step rfl rfl rfl rfl ?_
          refine Sp.if2 rfl rfl rfl rfl (fun e56 => ?_) (fun e56 => ?_)
          · exact Sp.jmp (l0 := [some (.ref 41), some (.int x31.1), some (.int x43), some (.int x49), some (.int x55.1)]) ⟨rfl, rfl, rfl, rfl, rfl, trivial⟩ (fun _ _ h => h)
          · refine Sp.step rfl rfl rfl rfl ?_
            refine Sp.step rfl rfl rfl rfl ?_
            refine Sp.step rfl rfl rfl rfl ?_
            refine Sp.step rfl rfl rfl rfl ?_
            refine Sp.step rfl rfl rfl rfl ?_
            refine Sp.step rfl rfl rfl rfl ?_
            refine Sp.step rfl rfl rfl rfl ?_
            refine Sp.step rfl rfl rfl rfl ?_
            refine Sp.step rfl rfl rfl rfl ?_
            refine Sp.call rfl rfl rfl (xrecv (c := 4) (by decide) rfl (by decide +kernel)) s_Memory_word (fun x57 => ⟨_, _, ⟨rfl, rfl⟩, ?_⟩)
            refine Sp.id (pc := 64) (l := [some (.ref 41), some (.int x31.1), some (.int x43), some (.int x49), some (.int x55.1)]) (st := [.int x57, .ref 41, .int (x43 + x55.1), .ref 41]) (h := hS x55.2 M) ?_
            refine Sp.call rfl rfl rfl (xrecv (c := 4) (by decide) rfl (by decide +kernel)) s_Memory_forwarded (fun x58 => ⟨_, _, ⟨rfl, rfl⟩, ?_⟩)
            refine Sp.id (pc := 67) (l := [some (.ref 41), some (.int x31.1), some (.int x43), some (.int x49), some (.int x55.1)]) (st := [.int x58, .int (x43 + x55.1), .ref 41]) (h := hS x55.2 M) ?_
            refine Sp.call rfl rfl rfl (xrecv (c := 4) (by decide) rfl (by decide +kernel)) s_Memory_setWord (fun x59 => ⟨_, _, ⟨rfl, rfl⟩, ?_⟩)
            refine Sp.id (pc := 70) (l := [some (.ref 41), some (.int x31.1), some (.int x43), some (.int x49), some (.int x55.1)]) (st := []) (h := hS x59 M) ?_
            refine Sp.step rfl rfl rfl rfl ?_
            refine Sp.step rfl rfl rfl rfl ?_
            exact Sp.jmp (l0 := [some (.ref 41), some (.int x31.1), some (.int x43), some (.int x49), some (.int (x55.1 + 1))]) ⟨rfl, rfl, rfl, rfl, rfl, trivial⟩ (fun _ _ h => h)
        · refine Sp.step rfl rfl rfl rfl ?_
          refine Sp.step rfl rfl rfl rfl ?_
          exact Sp.jmp (l0 := [some (.ref 41), some (.int (x31.1 + 1)), none, none, none]) ⟨rfl, rfl, trivial⟩ (fun _ _ h => h)
  · exact Sp.vret rfl rfl rfl (fun _ _ h => h)
def b6_Memory_slide (x24 : (Int32 × Int32 × XS)) : Option ((Int32 × Int32 × XS) ⊕ (Int32 × Int32 × XS)) := (if x24.2.2.1 41 7 ≤ x24.2.1 then some (.inr (x24.1, x24.2.1, x24.2.2)) else ((f_Memory_sizeAt x24.2.1 x24.2.2).bind fun x26 => ((f_Memory_word (x24.2.1 + 3) x24.2.2).bind fun x27 => (if x27 < 1 then some (.inl (x24.1, x24.2.1 + (if 4 < x26 then x26 else 4), x24.2.2)) else (if x24.2.1 < x27 then some (.inl (x24.1, x24.2.1 + (if 4 < x26 then x26 else 4), x24.2.2)) else (ocz (x24.2.2.2.1 41 1) none (fun a30 => (ocz (xL x24.2.2 2 a30) none (fun n32 => (if Int32.ofNat n32 < x24.2.1 + x26 then some (.inl (x24.1, x24.2.1 + (if 4 < x26 then x26 else 4), x24.2.2)) else ((f_Memory_setWord (x24.2.1 + 3) 0 x24.2.2).bind fun x35 => (ocz (x35.2.1 41 1) none (fun a36 => (ocz (x35.2.1 41 1) none (fun a38 => (ocz (xL x35 2 a36) none (fun n40 => (ocz (xL x35 2 a38) none (fun n42 => (if cpo x24.2.1 x27 x26 n40 n42 then (if (List.range x26.toNatClampNeg).all (fun i => fits .char (.int (x35.1 a36 (x24.2.1.toNatClampNeg + i)))) = true then (lt (xc x35 (x35.1 a36) a38 x24.2.1.toNatClampNeg x27.toNatClampNeg x26.toNatClampNeg) fun X46 => some (.inl (x27 + x26, x24.2.1 + (if 4 < x26 then x26 else 4), X46))) else none) else none))))))))))))))))))))
def f_Memory_slide (X : XS) : Option XS := ((lp (b6_Memory_slide) 10000 ((1 : Int32), (1 : Int32), X)).bind fun x47 => (lt (xw x47.2.2 41 7 x47.1) fun X48 => (lt (xw X48 41 0 ((X48.1 41 0) + 1)) fun X49 => some X49)))
set_option maxRecDepth 100000 in
set_option maxHeartbeats 4000000 in
theorem s_Memory_slide {L : Nat} {xs : Nat → Int32} {X : XS} {M : MS} : Sp (mjOO L xs) 228 0 [some (.ref 41), none, none, none, none] [] (hS X M) (f_Memory_slide X) (KVX M) := by
  unfold f_Memory_slide
  refine Sp.step rfl rfl rfl rfl ?_
  refine Sp.step rfl rfl rfl rfl ?_
  refine Sp.step rfl rfl rfl rfl ?_
  refine Sp.step rfl rfl rfl rfl ?_
  refine Sp.step rfl rfl rfl rfl ?_
  refine Sp.step rfl rfl rfl rfl ?_
  refine Sp.weak (l0 := [some (.ref 41), some (.int 1), none, some (.int 1), none]) ⟨rfl, rfl, rfl, trivial⟩ ?_
  refine Sp.loopX (pe := 91) (mf := (fun (x24 : (Int32 × Int32 × XS)) => [some (.ref 41), some (.int x24.1), none, some (.int x24.2.1), none])) (hf := (fun (x24 : (Int32 × Int32 × XS)) => hS x24.2.2 M)) (fun x24 => ?_) (fun x47 => ?_) _ _
  · unfold b6_Memory_slide
    refine Sp.step rfl rfl rfl rfl ?_
    refine Sp.step rfl rfl rfl rfl ?_
    refine Sp.step rfl rfl rfl (xg_I (c := 4) (f := 7) rfl rfl rfl rfl) ?_
    refine Sp.if2 rfl rfl rfl rfl (fun e25 => ?_) (fun e25 => ?_)
    · exact Sp.jmp (l0 := [some (.ref 41), some (.int x24.1), none, some (.int x24.2.1), none]) ⟨rfl, rfl, rfl, trivial⟩ (fun _ _ h => h)
    · refine Sp.step rfl rfl rfl rfl ?_
      refine Sp.step rfl rfl rfl rfl ?_
      refine Sp.call rfl rfl rfl (xrecv (c := 4) (by decide) rfl (by decide +kernel)) s_Memory_sizeAt (fun x26 => ⟨_, _, ⟨rfl, rfl⟩, ?_⟩)
      refine Sp.id (pc := 19) (l := [some (.ref 41), some (.int x24.1), none, some (.int x24.2.1), none]) (st := [.int x26]) (h := hS x24.2.2 M) ?_
      refine Sp.step rfl rfl rfl rfl ?_
      refine Sp.step rfl rfl rfl rfl ?_
      refine Sp.step rfl rfl rfl rfl ?_
      refine Sp.step rfl rfl rfl rfl ?_
      refine Sp.step rfl rfl rfl rfl ?_
      refine Sp.call rfl rfl rfl (xrecv (c := 4) (by decide) rfl (by decide +kernel)) s_Memory_word (fun x27 => ⟨_, _, ⟨rfl, rfl⟩, ?_⟩)
      refine Sp.id (pc := 27) (l := [some (.ref 41), some (.int x24.1), some (.int x26), some (.int x24.2.1), none]) (st := [.int x27]) (h := hS x24.2.2 M) ?_
      refine Sp.step rfl rfl rfl rfl ?_
      refine Sp.step rfl rfl rfl rfl ?_
      refine Sp.step rfl rfl rfl rfl ?_
      refine Sp.if2 rfl rfl rfl rfl (fun e28 => ?_) (fun e28 => ?_)
      · refine Sp.step rfl rfl rfl rfl ?_
        refine Sp.step rfl rfl rfl rfl ?_
        refine Sp.step rfl rfl rfl rfl ?_
        refine Sp.nat rfl rfl rfl rfl ⟨by decide, by decide, rfl⟩ ?_
        refine Sp.step rfl rfl rfl rfl ?_
        refine Sp.step rfl rfl rfl rfl ?_
        refine Sp.step rfl rfl rfl rfl ?_
        exact Sp.jmp (l0 := [some (.ref 41), some (.int x24.1), none, some (.int (x24.2.1 + (if 4 < x26 then x26 else 4))), none]) ⟨rfl, rfl, rfl, trivial⟩ (fun _ _ h => h)
      · refine Sp.step rfl rfl rfl rfl ?_
        refine Sp.step rfl rfl rfl rfl ?_
        refine Sp.if2 rfl rfl rfl rfl (fun e29 => ?_) (fun e29 => ?_)
        · refine Sp.step rfl rfl rfl rfl ?_
          refine Sp.step rfl rfl rfl rfl ?_
          refine Sp.step rfl rfl rfl rfl ?_
          refine Sp.nat rfl rfl rfl rfl ⟨by decide, by decide, rfl⟩ ?_
          refine Sp.step rfl rfl rfl rfl ?_
          refine Sp.step rfl rfl rfl rfl ?_
          refine Sp.step rfl rfl rfl rfl ?_
          exact Sp.jmp (l0 := [some (.ref 41), some (.int x24.1), none, some (.int (x24.2.1 + (if 4 < x26 then x26 else 4))), none]) ⟨rfl, rfl, rfl, trivial⟩ (fun _ _ h => h)
        · refine Sp.step rfl rfl rfl rfl ?_
          refine Sp.step rfl rfl rfl rfl ?_
          refine Sp.step rfl rfl rfl rfl ?_
          refine Sp.step rfl rfl rfl rfl ?_
          refine Sp.step rfl rfl rfl (xg_D (c := 4) (f := 1) rfl rfl rfl rfl rfl) ?_
          refine Sp.ocrn (fun a30 e31 => ?_)
          refine Sp.ocn (fun n32 e33 => ?_)
          refine Sp.step rfl rfl rfl (xlen (xL_ok e33) (by decide)) ?_
          refine Sp.if2 rfl rfl rfl rfl (fun e34 => ?_) (fun e34 => ?_)
          · refine Sp.step rfl rfl rfl rfl ?_
            refine Sp.step rfl rfl rfl rfl ?_
            refine Sp.step rfl rfl rfl rfl ?_
            refine Sp.nat rfl rfl rfl rfl ⟨by decide, by decide, rfl⟩ ?_
            refine Sp.step rfl rfl rfl rfl ?_
            refine Sp.step rfl rfl rfl rfl ?_
            refine Sp.step rfl rfl rfl rfl ?_
            exact Sp.jmp (l0 := [some (.ref 41), some (.int x24.1), none, some (.int (x24.2.1 + (if 4 < x26 then x26 else 4))), none]) ⟨rfl, rfl, rfl, trivial⟩ (fun _ _ h => h)
          · refine Sp.step rfl rfl rfl rfl ?_
            refine Sp.step rfl rfl rfl rfl ?_
            refine Sp.step rfl rfl rfl rfl ?_
            refine Sp.step rfl rfl rfl rfl ?_
            refine Sp.step rfl rfl rfl rfl ?_
            refine Sp.call rfl rfl rfl (xrecv (c := 4) (by decide) rfl (by decide +kernel)) s_Memory_setWord (fun x35 => ⟨_, _, ⟨rfl, rfl⟩, ?_⟩)
            refine Sp.id (pc := 60) (l := [some (.ref 41), some (.int x24.1), some (.int x26), some (.int x24.2.1), some (.int x27)]) (st := []) (h := hS x35 M) ?_
            refine Sp.step rfl rfl rfl rfl ?_
            refine Sp.step rfl rfl rfl (xg_D (c := 4) (f := 1) rfl rfl rfl rfl rfl) ?_
            refine Sp.ocrn (fun a36 e37 => ?_)
            refine Sp.step rfl rfl rfl rfl ?_
            refine Sp.step rfl rfl rfl rfl ?_
            refine Sp.step rfl rfl rfl (xg_D (c := 4) (f := 1) rfl rfl rfl rfl rfl) ?_
            refine Sp.ocrn (fun a38 e39 => ?_)
            refine Sp.step rfl rfl rfl rfl ?_
            refine Sp.step rfl rfl rfl rfl ?_
            refine Sp.ocn (fun n40 e41 => ?_)
            refine Sp.ocn (fun n42 e43 => ?_)
            refine Sp.guard (fun e44 => ?_)
            refine Sp.guard (fun e45 => ?_)
            refine Sp.nat rfl rfl rfl (xcopy (xL_ok e41) (xL_ok e43) (Or.inr ⟨rfl, e45⟩) e44) ⟨by decide, by decide, rfl⟩ ?_
            refine Sp.step rfl rfl rfl rfl ?_
            refine Sp.step rfl rfl rfl rfl ?_
            refine Sp.step rfl rfl rfl rfl ?_
            refine Sp.step rfl rfl rfl rfl ?_
            refine Sp.step rfl rfl rfl rfl ?_
            refine Sp.step rfl rfl rfl rfl ?_
            refine Sp.step rfl rfl rfl rfl ?_
            refine Sp.nat rfl rfl rfl rfl ⟨by decide, by decide, rfl⟩ ?_
            refine Sp.step rfl rfl rfl rfl ?_
            refine Sp.step rfl rfl rfl rfl ?_
            refine Sp.step rfl rfl rfl rfl ?_
            exact Sp.jmp (l0 := [some (.ref 41), some (.int (x27 + x26)), none, some (.int (x24.2.1 + (if 4 < x26 then x26 else 4))), none]) ⟨rfl, rfl, rfl, trivial⟩ (fun _ _ h => h)
  · refine Sp.step rfl rfl rfl rfl ?_
    refine Sp.step rfl rfl rfl rfl ?_
    refine Sp.step rfl rfl rfl (xp_I (c := 4) (f := 7) rfl rfl rfl rfl rfl) ?_
    refine Sp.step rfl rfl rfl rfl ?_
    refine Sp.step rfl rfl rfl rfl ?_
    refine Sp.step rfl rfl rfl (xg_I (c := 4) (f := 0) rfl rfl rfl rfl) ?_
    refine Sp.step rfl rfl rfl rfl ?_
    refine Sp.step rfl rfl rfl rfl ?_
    refine Sp.step rfl rfl rfl (xp_I (c := 4) (f := 0) rfl rfl rfl rfl rfl) ?_
    exact Sp.vret rfl rfl rfl (fun _ _ h => h)
def b26_Engine_collect (x23 : (Int32 × XS)) : Option ((Int32 × XS) ⊕ (Int32 × XS)) := (if 6 ≤ x23.1 then some (.inr (x23.1, x23.2)) else (if f_Engine_isStrand x23.1 x23.2 = true then (ocz (x23.2.2.1 50 x23.1.toNatClampNeg) none (fun a27 => (if (xT x23.2 a27 = some (14, 0)) then (ocz (x23.2.2.1 a27 5) none (fun a30 => (ocz (x23.2.2.1 50 x23.1.toNatClampNeg) none (fun a32 => (if (xT x23.2 a32 = some (14, 0)) then (ocz (x23.2.2.1 a32 6) none (fun a35 => (ocz (x23.2.2.1 50 x23.1.toNatClampNeg) none (fun a37 => (if (xT x23.2 a37 = some (14, 0)) then ((f_Strand_slots a37 x23.2).bind fun x40 => ((f_Memory_markRow a30 a35 x40 x23.2).bind fun x41 => some (.inl (x23.1 + 1, x41)))) else none))))) else none))))) else none))) else some (.inr (x23.1, x23.2))))
def b106_Engine_collect (x66 : (Int32 × XS)) : Option ((Int32 × XS) ⊕ (Int32 × XS)) := (if 6 ≤ x66.1 then some (.inr (x66.1, x66.2)) else (if f_Engine_isStrand x66.1 x66.2 = true then (ocz (x66.2.2.1 50 x66.1.toNatClampNeg) none (fun a70 => (if (xT x66.2 a70 = some (14, 0)) then (ocz (x66.2.2.1 a70 5) none (fun a73 => (ocz (x66.2.2.1 50 x66.1.toNatClampNeg) none (fun a75 => (if (xT x66.2 a75 = some (14, 0)) then (ocz (x66.2.2.1 a75 6) none (fun a78 => (ocz (x66.2.2.1 50 x66.1.toNatClampNeg) none (fun a80 => (if (xT x66.2 a80 = some (14, 0)) then ((f_Strand_slots a80 x66.2).bind fun x83 => ((f_Memory_forwardRow a73 a78 x83 x66.2).bind fun x84 => some (.inl (x66.1 + 1, x84)))) else none))))) else none))))) else none))) else some (.inr (x66.1, x66.2))))
def f_Engine_collect (X : XS) : Option XS := ((f_Memory_beginMarking X).bind fun x1 => ((f_Memory_markRow_57_58 8 x1).bind fun x2 => ((lp (b26_Engine_collect) 10000 ((0 : Int32), x2)).bind fun x43 => ((f_Memory_plan x43.2).bind fun x44 => ((f_Memory_forwardRow_57_58 8 x44).bind fun x45 => ((lp (b106_Engine_collect) 10000 ((0 : Int32), x45)).bind fun x86 => ((f_Memory_forwardFields x86.2).bind fun x87 => ((f_Memory_slide x87).bind fun x88 => some x88))))))))
set_option maxRecDepth 100000 in
set_option maxHeartbeats 4000000 in
theorem s_Engine_collect {L : Nat} {xs : Nat → Int32} {X : XS} {M : MS} : Sp (mjOO L xs) 118 0 [some (.ref 40), none] [] (hS X M) (f_Engine_collect X) (KVX M) := by
  unfold f_Engine_collect
  refine Sp.step rfl rfl rfl rfl ?_
  refine Sp.step rfl rfl rfl (xg_F (c := 0) (f := 3) rfl rfl rfl rfl rfl) ?_
  refine Sp.call rfl rfl rfl (xrecv (c := 4) (by decide) rfl (by decide +kernel)) s_Memory_beginMarking (fun x1 => ⟨_, _, ⟨rfl, rfl⟩, ?_⟩)
  refine Sp.id (pc := 7) (l := [some (.ref 40), none]) (st := []) (h := hS x1 M) ?_
  refine Sp.step rfl rfl rfl rfl ?_
  refine Sp.step rfl rfl rfl (xg_F (c := 0) (f := 3) rfl rfl rfl rfl rfl) ?_
  refine Sp.step rfl rfl rfl rfl ?_
  refine Sp.step rfl rfl rfl (xg_F (c := 0) (f := 8) rfl rfl rfl rfl rfl) ?_
  refine Sp.step rfl rfl rfl rfl ?_
  refine Sp.step rfl rfl rfl (xg_F (c := 0) (f := 9) rfl rfl rfl rfl rfl) ?_
  refine Sp.step rfl rfl rfl rfl ?_
  refine Sp.call rfl rfl rfl (xrecv (c := 4) (by decide) rfl (by decide +kernel)) s_Memory_markRow_57_58 (fun x2 => ⟨_, _, ⟨rfl, rfl⟩, ?_⟩)
  refine Sp.id (pc := 24) (l := [some (.ref 40), none]) (st := []) (h := hS x2 M) ?_
  refine Sp.step rfl rfl rfl rfl ?_
  refine Sp.step rfl rfl rfl rfl ?_
  refine Sp.weak (l0 := [some (.ref 40), some (.int 0)]) ⟨rfl, rfl, trivial⟩ ?_
  refine Sp.loopX (pe := 80) (mf := (fun (x23 : (Int32 × XS)) => [some (.ref 40), some (.int x23.1)])) (hf := (fun (x23 : (Int32 × XS)) => hS x23.2 M)) (fun x23 => ?_) (fun x43 => ?_) _ _
  · unfold b26_Engine_collect
    refine Sp.step rfl rfl rfl rfl ?_
    refine Sp.step rfl rfl rfl rfl ?_
    refine Sp.if2 rfl rfl rfl rfl (fun e24 => ?_) (fun e24 => ?_)
    · exact Sp.jmp (l0 := [some (.ref 40), some (.int x23.1)]) ⟨rfl, rfl, trivial⟩ (fun _ _ h => h)
    · refine Sp.step rfl rfl rfl rfl ?_
      refine Sp.step rfl rfl rfl rfl ?_
      refine Sp.callS rfl rfl rfl (xrecv (c := 0) (by decide) rfl (by decide +kernel)) s_Engine_isStrand ⟨rfl, rfl⟩ ?_
      refine Sp.bool (fun e25 => ?_) (fun e25 => ?_)
      · refine Sp.id (pc := 37) (l := [some (.ref 40), some (.int x23.1)]) (st := [.int 1]) (h := hS x23.2 M) ?_
        refine Sp.step rfl rfl rfl rfl ?_
        refine Sp.step rfl rfl rfl rfl ?_
        refine Sp.step rfl rfl rfl (xg_F (c := 0) (f := 3) rfl rfl rfl rfl rfl) ?_
        refine Sp.step rfl rfl rfl rfl ?_
        refine Sp.step rfl rfl rfl (xg_F (c := 0) (f := 5) rfl rfl rfl rfl rfl) ?_
        refine Sp.step rfl rfl rfl rfl ?_
        refine Sp.step rfl rfl rfl (xald (t := 4) rfl (by decide) (fun _ => rfl) (isStrand_ix e25)) ?_
        refine Sp.ocrn (fun a27 e28 => ?_)
        refine Sp.guard (fun e29 => ?_)
        refine Sp.step rfl rfl rfl (xg_D (c := 9) (f := 5) rfl rfl e29 rfl (fxP_big (dyn_of (c := 9) e29 rfl))) ?_
        refine Sp.ocrn (fun a30 e31 => ?_)
        refine Sp.step rfl rfl rfl rfl ?_
        refine Sp.step rfl rfl rfl (xg_F (c := 0) (f := 5) rfl rfl rfl rfl rfl) ?_
        refine Sp.step rfl rfl rfl rfl ?_
        refine Sp.step rfl rfl rfl (xald (t := 4) rfl (by decide) (fun _ => rfl) (isStrand_ix e25)) ?_
        refine Sp.ocrn (fun a32 e33 => ?_)
        refine Sp.guard (fun e34 => ?_)
        refine Sp.step rfl rfl rfl (xg_D (c := 9) (f := 6) rfl rfl e34 rfl (fxP_big (dyn_of (c := 9) e34 rfl))) ?_
        refine Sp.ocrn (fun a35 e36 => ?_)
        refine Sp.step rfl rfl rfl rfl ?_
        refine Sp.step rfl rfl rfl (xg_F (c := 0) (f := 5) rfl rfl rfl rfl rfl) ?_
        refine Sp.step rfl rfl rfl rfl ?_
        refine Sp.step rfl rfl rfl (xald (t := 4) rfl (by decide) (fun _ => rfl) (isStrand_ix e25)) ?_
        refine Sp.ocrn (fun a37 e38 => ?_)
        refine Sp.guard (fun e39 => ?_)
        refine Sp.call rfl rfl rfl (xrecv (c := 9) (by decide) e39 (by decide +kernel)) s_Strand_slots (fun x40 => ⟨_, _, ⟨rfl, rfl⟩, ?_⟩)
        refine Sp.id (pc := 71) (l := [some (.ref 40), some (.int x23.1)]) (st := [.int x40, .ref a35, .ref a30, .ref 41]) (h := hS x23.2 M) ?_
        refine Sp.call rfl rfl rfl (xrecv (c := 4) (by decide) rfl (by decide +kernel)) s_Memory_markRow (fun x41 => ⟨_, _, ⟨rfl, rfl⟩, ?_⟩)
        refine Sp.id (pc := 74) (l := [some (.ref 40), some (.int x23.1)]) (st := []) (h := hS x41 M) ?_
        refine Sp.step rfl rfl rfl rfl ?_
        refine Sp.step rfl rfl rfl rfl ?_
        exact Sp.jmp (l0 := [some (.ref 40), some (.int (x23.1 + 1))]) ⟨rfl, rfl, trivial⟩ (fun _ _ h => h)
      · refine Sp.id (pc := 37) (l := [some (.ref 40), some (.int x23.1)]) (st := [.int 0]) (h := hS x23.2 M) ?_
        refine Sp.step rfl rfl rfl rfl ?_
        exact Sp.jmp (l0 := [some (.ref 40), some (.int x23.1)]) ⟨rfl, rfl, trivial⟩ (fun _ _ h => h)
  · refine Sp.step rfl rfl rfl rfl ?_
    refine Sp.step rfl rfl rfl (xg_F (c := 0) (f := 3) rfl rfl rfl rfl rfl) ?_
    refine Sp.call rfl rfl rfl (xrecv (c := 4) (by decide) rfl (by decide +kernel)) s_Memory_plan (fun x44 => ⟨_, _, ⟨rfl, rfl⟩, ?_⟩)
    refine Sp.id (pc := 87) (l := [some (.ref 40), some (.int x43.1)]) (st := []) (h := hS x44 M) ?_
    refine Sp.step rfl rfl rfl rfl ?_
    refine Sp.step rfl rfl rfl (xg_F (c := 0) (f := 3) rfl rfl rfl rfl rfl) ?_
    refine Sp.step rfl rfl rfl rfl ?_
    refine Sp.step rfl rfl rfl (xg_F (c := 0) (f := 8) rfl rfl rfl rfl rfl) ?_
    refine Sp.step rfl rfl rfl rfl ?_
    refine Sp.step rfl rfl rfl (xg_F (c := 0) (f := 9) rfl rfl rfl rfl rfl) ?_
    refine Sp.step rfl rfl rfl rfl ?_
    refine Sp.call rfl rfl rfl (xrecv (c := 4) (by decide) rfl (by decide +kernel)) s_Memory_forwardRow_57_58 (fun x45 => ⟨_, _, ⟨rfl, rfl⟩, ?_⟩)
    refine Sp.id (pc := 104) (l := [some (.ref 40), some (.int x43.1)]) (st := []) (h := hS x45 M) ?_
    refine Sp.step rfl rfl rfl rfl ?_
    refine Sp.step rfl rfl rfl rfl ?_
    refine Sp.weak (l0 := [some (.ref 40), some (.int 0)]) ⟨rfl, rfl, trivial⟩ ?_
    refine Sp.loopX (pe := 160) (mf := (fun (x66 : (Int32 × XS)) => [some (.ref 40), some (.int x66.1)])) (hf := (fun (x66 : (Int32 × XS)) => hS x66.2 M)) (fun x66 => ?_) (fun x86 => ?_) _ _
    · unfold b106_Engine_collect
      refine Sp.step rfl rfl rfl rfl ?_
      refine Sp.step rfl rfl rfl rfl ?_
      refine Sp.if2 rfl rfl rfl rfl (fun e67 => ?_) (fun e67 => ?_)
      · exact Sp.jmp (l0 := [some (.ref 40), some (.int x66.1)]) ⟨rfl, rfl, trivial⟩ (fun _ _ h => h)
      · refine Sp.step rfl rfl rfl rfl ?_
        refine Sp.step rfl rfl rfl rfl ?_
        refine Sp.callS rfl rfl rfl (xrecv (c := 0) (by decide) rfl (by decide +kernel)) s_Engine_isStrand ⟨rfl, rfl⟩ ?_
        refine Sp.bool (fun e68 => ?_) (fun e68 => ?_)
        · refine Sp.id (pc := 117) (l := [some (.ref 40), some (.int x66.1)]) (st := [.int 1]) (h := hS x66.2 M) ?_
          refine Sp.step rfl rfl rfl rfl ?_
          refine Sp.step rfl rfl rfl rfl ?_
          refine Sp.step rfl rfl rfl (xg_F (c := 0) (f := 3) rfl rfl rfl rfl rfl) ?_
          refine Sp.step rfl rfl rfl rfl ?_
          refine Sp.step rfl rfl rfl (xg_F (c := 0) (f := 5) rfl rfl rfl rfl rfl) ?_
          refine Sp.step rfl rfl rfl rfl ?_
          refine Sp.step rfl rfl rfl (xald (t := 4) rfl (by decide) (fun _ => rfl) (isStrand_ix e68)) ?_
          refine Sp.ocrn (fun a70 e71 => ?_)
          refine Sp.guard (fun e72 => ?_)
          refine Sp.step rfl rfl rfl (xg_D (c := 9) (f := 5) rfl rfl e72 rfl (fxP_big (dyn_of (c := 9) e72 rfl))) ?_
          refine Sp.ocrn (fun a73 e74 => ?_)
          refine Sp.step rfl rfl rfl rfl ?_
          refine Sp.step rfl rfl rfl (xg_F (c := 0) (f := 5) rfl rfl rfl rfl rfl) ?_
          refine Sp.step rfl rfl rfl rfl ?_
          refine Sp.step rfl rfl rfl (xald (t := 4) rfl (by decide) (fun _ => rfl) (isStrand_ix e68)) ?_
          refine Sp.ocrn (fun a75 e76 => ?_)
          refine Sp.guard (fun e77 => ?_)
          refine Sp.step rfl rfl rfl (xg_D (c := 9) (f := 6) rfl rfl e77 rfl (fxP_big (dyn_of (c := 9) e77 rfl))) ?_
          refine Sp.ocrn (fun a78 e79 => ?_)
          refine Sp.step rfl rfl rfl rfl ?_
          refine Sp.step rfl rfl rfl (xg_F (c := 0) (f := 5) rfl rfl rfl rfl rfl) ?_
          refine Sp.step rfl rfl rfl rfl ?_
          refine Sp.step rfl rfl rfl (xald (t := 4) rfl (by decide) (fun _ => rfl) (isStrand_ix e68)) ?_
          refine Sp.ocrn (fun a80 e81 => ?_)
          refine Sp.guard (fun e82 => ?_)
          refine Sp.call rfl rfl rfl (xrecv (c := 9) (by decide) e82 (by decide +kernel)) s_Strand_slots (fun x83 => ⟨_, _, ⟨rfl, rfl⟩, ?_⟩)
          refine Sp.id (pc := 151) (l := [some (.ref 40), some (.int x66.1)]) (st := [.int x83, .ref a78, .ref a73, .ref 41]) (h := hS x66.2 M) ?_
          refine Sp.call rfl rfl rfl (xrecv (c := 4) (by decide) rfl (by decide +kernel)) s_Memory_forwardRow (fun x84 => ⟨_, _, ⟨rfl, rfl⟩, ?_⟩)
          refine Sp.id (pc := 154) (l := [some (.ref 40), some (.int x66.1)]) (st := []) (h := hS x84 M) ?_
          refine Sp.step rfl rfl rfl rfl ?_
          refine Sp.step rfl rfl rfl rfl ?_
          exact Sp.jmp (l0 := [some (.ref 40), some (.int (x66.1 + 1))]) ⟨rfl, rfl, trivial⟩ (fun _ _ h => h)
        · refine Sp.id (pc := 117) (l := [some (.ref 40), some (.int x66.1)]) (st := [.int 0]) (h := hS x66.2 M) ?_
          refine Sp.step rfl rfl rfl rfl ?_
          exact Sp.jmp (l0 := [some (.ref 40), some (.int x66.1)]) ⟨rfl, rfl, trivial⟩ (fun _ _ h => h)
    · refine Sp.step rfl rfl rfl rfl ?_
      refine Sp.step rfl rfl rfl (xg_F (c := 0) (f := 3) rfl rfl rfl rfl rfl) ?_
      refine Sp.call rfl rfl rfl (xrecv (c := 4) (by decide) rfl (by decide +kernel)) s_Memory_forwardFields (fun x87 => ⟨_, _, ⟨rfl, rfl⟩, ?_⟩)
      refine Sp.id (pc := 167) (l := [some (.ref 40), some (.int x86.1)]) (st := []) (h := hS x87 M) ?_
      refine Sp.step rfl rfl rfl rfl ?_
      refine Sp.step rfl rfl rfl (xg_F (c := 0) (f := 3) rfl rfl rfl rfl rfl) ?_
      refine Sp.call rfl rfl rfl (xrecv (c := 4) (by decide) rfl (by decide +kernel)) s_Memory_slide (fun x88 => ⟨_, _, ⟨rfl, rfl⟩, ?_⟩)
      refine Sp.id (pc := 174) (l := [some (.ref 40), some (.int x86.1)]) (st := []) (h := hS x88 M) ?_
      exact Sp.vret rfl rfl rfl (fun _ _ h => h)
def f_Engine_doMake (x : Nat) (y : Int32) (z : Int32) (X : XS) : Option (Int32 × XS) := (((if ¬ y = 26 then (if (xT X x = some (14, 0)) then ((f_Strand_pop x X).bind fun x3 => some (x3.1, x3.2)) else none) else some (0, X)) : Option (Int32 × XS)).bind fun x4 => (if 0 ≤ x4.1 ∧ x4.1 ≤ 200 then (((if ¬ y = 26 then (if ¬ y = 31 then some 255 else some 254) else some z) : Option (Int32)).bind fun x9 => (if f_Memory_hasRoomFor (f_Memory_bytesFor x9 x4.1 x4.2) x4.2 = true then (if f_Memory_hasRoomFor (f_Memory_bytesFor x9 x4.1 x4.2) x4.2 = true then ((f_Memory_place x9 x4.1 x4.2).bind fun x14 => (if (xT x14.2 x = some (14, 0)) then ((f_Strand_pushRef x x14.1 x14.2).bind fun x16 => some (0, x16)) else none)) else some (9, x4.2)) else ((f_Engine_collect x4.2).bind fun x19 => (if f_Memory_hasRoomFor (f_Memory_bytesFor x9 x4.1 x4.2) x19 = true then ((f_Memory_place x9 x4.1 x19).bind fun x22 => (if (xT x22.2 x = some (14, 0)) then ((f_Strand_pushRef x x22.1 x22.2).bind fun x24 => some (0, x24)) else none)) else some (9, x19))))) else some (4, x4.2)))
set_option maxRecDepth 100000 in
set_option maxHeartbeats 4000000 in
theorem s_Engine_doMake {L : Nat} {xs : Nat → Int32} {X : XS} {M : MS} {x : Nat} {y : Int32} {z : Int32} : Sp (mjOO L xs) 117 0 [some (.ref 40), some (.ref x), some (.int y), some (.int z), none, none, none] [] (hS X M) (f_Engine_doMake x y z X) (KEX M) := by
  unfold f_Engine_doMake
  refine Sp.step rfl rfl rfl rfl ?_
  refine Sp.step rfl rfl rfl rfl ?_
  refine Sp.piece (pe := 14) (mf := (fun (x4 : Int32 × XS) => [some (.ref 40), some (.ref x), some (.int y), some (.int z), none, none, none])) (sf := (fun (x4 : Int32 × XS) => [.int x4.1])) (hf := (fun (x4 : Int32 × XS) => hS x4.2 M)) ?_ (fun x4 => ?_)
  · refine Sp.if2 rfl rfl rfl rfl (fun e1 => ?_) (fun e1 => ?_)
    · refine Sp.step rfl rfl rfl rfl ?_
      refine Sp.guard (fun e2 => ?_)
      refine Sp.call rfl rfl rfl (xrecv (c := 9) (by decide) e2 (by decide +kernel)) s_Strand_pop (fun x3 => ⟨_, _, ⟨rfl, rfl⟩, ?_⟩)
      refine Sp.id (pc := 14) (l := [some (.ref 40), some (.ref x), some (.int y), some (.int z), none, none, none]) (st := [.int x3.1]) (h := hS x3.2 M) ?_
      exact Sp.jmp (l0 := [some (.ref 40), some (.ref x), some (.int y), some (.int z), none, none, none]) ⟨rfl, rfl, rfl, rfl, trivial⟩ (fun _ _ h => h)
    · refine Sp.step rfl rfl rfl rfl ?_
      refine Sp.step rfl rfl rfl rfl ?_
      exact Sp.jmp (l0 := [some (.ref 40), some (.ref x), some (.int y), some (.int z), none, none, none]) ⟨rfl, rfl, rfl, rfl, trivial⟩ (fun _ _ h => h)
  · refine Sp.step rfl rfl rfl rfl ?_
    refine Sp.step rfl rfl rfl rfl ?_
    refine Sp.step rfl rfl rfl rfl ?_
    refine Sp.step rfl rfl rfl rfl ?_
    refine Sp.callP rfl rfl rfl rfl s_within (fun e5 => ?_) (fun e5 => ?_)
    · refine Sp.id (pc := 25) (l := [some (.ref 40), some (.ref x), some (.int y), some (.int z), some (.int x4.1), none, none]) (st := [.int 1]) (h := hS x4.2 M) ?_
      refine Sp.step rfl rfl rfl rfl ?_
      refine Sp.step rfl rfl rfl rfl ?_
      refine Sp.step rfl rfl rfl rfl ?_
      refine Sp.piece (pe := 55) (mf := (fun (x9 : Int32) => [some (.ref 40), some (.ref x), none, none, some (.int x4.1), none, none])) (sf := (fun (x9 : Int32) => [.int x9])) (hf := (fun (x9 : Int32) => hS x4.2 M)) ?_ (fun x9 => ?_)
      · refine Sp.if2 rfl rfl rfl rfl (fun e7 => ?_) (fun e7 => ?_)
        · refine Sp.step rfl rfl rfl rfl ?_
          refine Sp.step rfl rfl rfl rfl ?_
          refine Sp.if2 rfl rfl rfl rfl (fun e8 => ?_) (fun e8 => ?_)
          · refine Sp.step rfl rfl rfl rfl ?_
            exact Sp.jmp (l0 := [some (.ref 40), some (.ref x), none, none, some (.int x4.1), none, none]) ⟨rfl, rfl, rfl, trivial⟩ (fun _ _ h => h)
          · refine Sp.step rfl rfl rfl rfl ?_
            refine Sp.step rfl rfl rfl rfl ?_
            exact Sp.jmp (l0 := [some (.ref 40), some (.ref x), none, none, some (.int x4.1), none, none]) ⟨rfl, rfl, rfl, trivial⟩ (fun _ _ h => h)
        · refine Sp.step rfl rfl rfl rfl ?_
          refine Sp.step rfl rfl rfl rfl ?_
          exact Sp.jmp (l0 := [some (.ref 40), some (.ref x), none, none, some (.int x4.1), none, none]) ⟨rfl, rfl, rfl, trivial⟩ (fun _ _ h => h)
      · refine Sp.step rfl rfl rfl rfl ?_
        refine Sp.step rfl rfl rfl rfl ?_
        refine Sp.step rfl rfl rfl (xg_F (c := 0) (f := 3) rfl rfl rfl rfl rfl) ?_
        refine Sp.step rfl rfl rfl rfl ?_
        refine Sp.step rfl rfl rfl rfl ?_
        refine Sp.callS rfl rfl rfl (xrecv (c := 4) (by decide) rfl (by decide +kernel)) s_Memory_bytesFor ⟨rfl, rfl⟩ ?_
        refine Sp.id (pc := 68) (l := [some (.ref 40), some (.ref x), none, none, some (.int x4.1), some (.int x9), none]) (st := [.int (f_Memory_bytesFor x9 x4.1 x4.2)]) (h := hS x4.2 M) ?_
        refine Sp.step rfl rfl rfl rfl ?_
        refine Sp.step rfl rfl rfl rfl ?_
        refine Sp.step rfl rfl rfl (xg_F (c := 0) (f := 3) rfl rfl rfl rfl rfl) ?_
        refine Sp.step rfl rfl rfl rfl ?_
        refine Sp.callS rfl rfl rfl (xrecv (c := 4) (by decide) rfl (by decide +kernel)) s_Memory_hasRoomFor ⟨rfl, rfl⟩ ?_
        refine Sp.bool (fun e10 => ?_) (fun e10 => ?_)
        · refine Sp.id (pc := 79) (l := [some (.ref 40), some (.ref x), none, none, some (.int x4.1), some (.int x9), some (.int (f_Memory_bytesFor x9 x4.1 x4.2))]) (st := [.int 1]) (h := hS x4.2 M) ?_
          refine Sp.step rfl rfl rfl rfl ?_
          refine Sp.step rfl rfl rfl rfl ?_
          refine Sp.step rfl rfl rfl (xg_F (c := 0) (f := 3) rfl rfl rfl rfl rfl) ?_
          refine Sp.step rfl rfl rfl rfl ?_
          refine Sp.callS rfl rfl rfl (xrecv (c := 4) (by decide) rfl (by decide +kernel)) s_Memory_hasRoomFor ⟨rfl, rfl⟩ ?_
          refine Sp.bool (fun e12 => ?_) (fun e12 => ?_)
          · refine Sp.id (pc := 95) (l := [some (.ref 40), some (.ref x), none, none, some (.int x4.1), some (.int x9), some (.int (f_Memory_bytesFor x9 x4.1 x4.2))]) (st := [.int 1]) (h := hS x4.2 M) ?_
            refine Sp.step rfl rfl rfl rfl ?_
            refine Sp.step rfl rfl rfl rfl ?_
            refine Sp.step rfl rfl rfl rfl ?_
            refine Sp.step rfl rfl rfl (xg_F (c := 0) (f := 3) rfl rfl rfl rfl rfl) ?_
            refine Sp.step rfl rfl rfl rfl ?_
            refine Sp.step rfl rfl rfl rfl ?_
            refine Sp.call rfl rfl rfl (xrecv (c := 4) (by decide) rfl (by decide +kernel)) s_Memory_place (fun x14 => ⟨_, _, ⟨rfl, rfl⟩, ?_⟩)
            refine Sp.id (pc := 113) (l := [some (.ref 40), some (.ref x), none, none, some (.int x4.1), some (.int x9), some (.int (f_Memory_bytesFor x9 x4.1 x4.2))]) (st := [.int x14.1, .ref x]) (h := hS x14.2 M) ?_
            refine Sp.guard (fun e15 => ?_)
            refine Sp.call rfl rfl rfl (xrecv (c := 9) (by decide) e15 (by decide +kernel)) s_Strand_pushRef (fun x16 => ⟨_, _, ⟨rfl, rfl⟩, ?_⟩)
            refine Sp.id (pc := 116) (l := [some (.ref 40), some (.ref x), none, none, some (.int x4.1), some (.int x9), some (.int (f_Memory_bytesFor x9 x4.1 x4.2))]) (st := []) (h := hS x16 M) ?_
            refine Sp.step rfl rfl rfl rfl ?_
            exact Sp.iret rfl rfl rfl rfl (fun _ _ h => h)
          · refine Sp.id (pc := 95) (l := [some (.ref 40), some (.ref x), none, none, some (.int x4.1), some (.int x9), some (.int (f_Memory_bytesFor x9 x4.1 x4.2))]) (st := [.int 0]) (h := hS x4.2 M) ?_
            refine Sp.step rfl rfl rfl rfl ?_
            refine Sp.step rfl rfl rfl rfl ?_
            exact Sp.iret rfl rfl rfl rfl (fun _ _ h => h)
        · refine Sp.id (pc := 79) (l := [some (.ref 40), some (.ref x), none, none, some (.int x4.1), some (.int x9), some (.int (f_Memory_bytesFor x9 x4.1 x4.2))]) (st := [.int 0]) (h := hS x4.2 M) ?_
          refine Sp.step rfl rfl rfl rfl ?_
          refine Sp.step rfl rfl rfl rfl ?_
          refine Sp.call rfl rfl rfl (xrecv (c := 0) (by decide) rfl (by decide +kernel)) s_Engine_collect (fun x19 => ⟨_, _, ⟨rfl, rfl⟩, ?_⟩)
          refine Sp.id (pc := 86) (l := [some (.ref 40), some (.ref x), none, none, some (.int x4.1), some (.int x9), some (.int (f_Memory_bytesFor x9 x4.1 x4.2))]) (st := []) (h := hS x19 M) ?_
          refine Sp.step rfl rfl rfl rfl ?_
          refine Sp.step rfl rfl rfl (xg_F (c := 0) (f := 3) rfl rfl rfl rfl rfl) ?_
          refine Sp.step rfl rfl rfl rfl ?_
          refine Sp.callS rfl rfl rfl (xrecv (c := 4) (by decide) rfl (by decide +kernel)) s_Memory_hasRoomFor ⟨rfl, rfl⟩ ?_
          refine Sp.bool (fun e20 => ?_) (fun e20 => ?_)
          · refine Sp.id (pc := 95) (l := [some (.ref 40), some (.ref x), none, none, some (.int x4.1), some (.int x9), some (.int (f_Memory_bytesFor x9 x4.1 x4.2))]) (st := [.int 1]) (h := hS x19 M) ?_
            refine Sp.step rfl rfl rfl rfl ?_
            refine Sp.step rfl rfl rfl rfl ?_
            refine Sp.step rfl rfl rfl rfl ?_
            refine Sp.step rfl rfl rfl (xg_F (c := 0) (f := 3) rfl rfl rfl rfl rfl) ?_
            refine Sp.step rfl rfl rfl rfl ?_
            refine Sp.step rfl rfl rfl rfl ?_
            refine Sp.call rfl rfl rfl (xrecv (c := 4) (by decide) rfl (by decide +kernel)) s_Memory_place (fun x22 => ⟨_, _, ⟨rfl, rfl⟩, ?_⟩)
            refine Sp.id (pc := 113) (l := [some (.ref 40), some (.ref x), none, none, some (.int x4.1), some (.int x9), some (.int (f_Memory_bytesFor x9 x4.1 x4.2))]) (st := [.int x22.1, .ref x]) (h := hS x22.2 M) ?_
            refine Sp.guard (fun e23 => ?_)
            refine Sp.call rfl rfl rfl (xrecv (c := 9) (by decide) e23 (by decide +kernel)) s_Strand_pushRef (fun x24 => ⟨_, _, ⟨rfl, rfl⟩, ?_⟩)
            refine Sp.id (pc := 116) (l := [some (.ref 40), some (.ref x), none, none, some (.int x4.1), some (.int x9), some (.int (f_Memory_bytesFor x9 x4.1 x4.2))]) (st := []) (h := hS x24 M) ?_
            refine Sp.step rfl rfl rfl rfl ?_
            exact Sp.iret rfl rfl rfl rfl (fun _ _ h => h)
          · refine Sp.id (pc := 95) (l := [some (.ref 40), some (.ref x), none, none, some (.int x4.1), some (.int x9), some (.int (f_Memory_bytesFor x9 x4.1 x4.2))]) (st := [.int 0]) (h := hS x19 M) ?_
            refine Sp.step rfl rfl rfl rfl ?_
            refine Sp.step rfl rfl rfl rfl ?_
            exact Sp.iret rfl rfl rfl rfl (fun _ _ h => h)
    · refine Sp.id (pc := 25) (l := [some (.ref 40), some (.ref x), some (.int y), some (.int z), some (.int x4.1), none, none]) (st := [.int 0]) (h := hS x4.2 M) ?_
      refine Sp.step rfl rfl rfl rfl ?_
      refine Sp.step rfl rfl rfl rfl ?_
      exact Sp.iret rfl rfl rfl rfl (fun _ _ h => h)
def f_Memory_kindOf (x : Int32) (X : XS) : Option Int32 := ((f_Memory_word x X).bind fun x1 => some x1)
set_option maxRecDepth 100000 in
set_option maxHeartbeats 4000000 in
theorem s_Memory_kindOf {L : Nat} {xs : Nat → Int32} {X : XS} {M : MS} {x : Int32} : Sp (mjOO L xs) 205 0 [some (.ref 41), some (.int x)] [] (hS X M) (f_Memory_kindOf x X) (KQ (hS X M)) := by
  unfold f_Memory_kindOf
  refine Sp.step rfl rfl rfl rfl ?_
  refine Sp.step rfl rfl rfl rfl ?_
  refine Sp.call rfl rfl rfl (xrecv (c := 4) (by decide) rfl (by decide +kernel)) s_Memory_word (fun x1 => ⟨_, _, ⟨rfl, rfl⟩, ?_⟩)
  refine Sp.id (pc := 5) (l := [some (.ref 41), some (.int x)]) (st := [.int x1]) (h := hS X M) ?_
  exact Sp.iret rfl rfl rfl rfl (fun _ _ h => h)
def b5_Image_isBelow_51 (y : Int32) (X : XS) (x1 : (Int32 × Int32)) : Option ((Int32 × Int32) ⊕ Bool) := (if 10 ≤ x1.2 then some (.inr false) else ((f_Image_at_51 2 X).bind fun x3 => (if x3 ≤ x1.1 then some (.inr false) else (if ¬ x1.1 = y then ((f_Image_at_51 (f_Image_kindAt_51 x1.1) X).bind fun x6 => some (.inl (x6, x1.2 + 1))) else some (.inr true)))))
def f_Image_isBelow_51 (x : Int32) (y : Int32) (X : XS) : Option Bool := (lp (b5_Image_isBelow_51 y X) 10000 (x, (0 : Int32)))
set_option maxRecDepth 100000 in
set_option maxHeartbeats 4000000 in
theorem s_Image_isBelow_51 {L : Nat} {xs : Nat → Int32} {X : XS} {M : MS} {x : Int32} {y : Int32} : Sp (mjOO L xs) 179 0 [some (.ref 51), some (.int x), some (.int y), none, none] [] (hS X M) (f_Image_isBelow_51 x y X) (KB (hS X M)) := by
  unfold f_Image_isBelow_51
  refine Sp.step rfl rfl rfl rfl ?_
  refine Sp.step rfl rfl rfl rfl ?_
  refine Sp.step rfl rfl rfl rfl ?_
  refine Sp.step rfl rfl rfl rfl ?_
  refine Sp.weak (l0 := [some (.ref 51), none, some (.int y), some (.int x), some (.int 0)]) ⟨rfl, rfl, rfl, rfl, trivial⟩ ?_
  refine Sp.loopL (mf := (fun (x1 : (Int32 × Int32)) => [some (.ref 51), none, some (.int y), some (.int x1.1), some (.int x1.2)])) (hf := (fun (x1 : (Int32 × Int32)) => hS X M)) (fun x1 => ?_) _ _
  unfold b5_Image_isBelow_51
  refine Sp.step rfl rfl rfl rfl ?_
  refine Sp.step rfl rfl rfl rfl ?_
  refine Sp.if2 rfl rfl rfl rfl (fun e2 => ?_) (fun e2 => ?_)
  · refine Sp.step rfl rfl rfl rfl ?_
    exact Sp.iret rfl rfl rfl rfl (fun _ _ h => h)
  · refine Sp.step rfl rfl rfl rfl ?_
    refine Sp.step rfl rfl rfl rfl ?_
    refine Sp.step rfl rfl rfl rfl ?_
    refine Sp.call rfl rfl rfl (xrecv (c := 2) (by decide) rfl (by decide +kernel)) s_Image_at_51 (fun x3 => ⟨_, _, ⟨rfl, rfl⟩, ?_⟩)
    refine Sp.id (pc := 18) (l := [some (.ref 51), none, some (.int y), some (.int x1.1), some (.int x1.2)]) (st := [.int x3, .int x1.1]) (h := hS X M) ?_
    refine Sp.if2 rfl rfl rfl rfl (fun e4 => ?_) (fun e4 => ?_)
    · refine Sp.step rfl rfl rfl rfl ?_
      exact Sp.iret rfl rfl rfl rfl (fun _ _ h => h)
    · refine Sp.step rfl rfl rfl rfl ?_
      refine Sp.step rfl rfl rfl rfl ?_
      refine Sp.if2 rfl rfl rfl rfl (fun e5 => ?_) (fun e5 => ?_)
      · refine Sp.step rfl rfl rfl rfl ?_
        refine Sp.step rfl rfl rfl rfl ?_
        refine Sp.step rfl rfl rfl rfl ?_
        refine Sp.callS rfl rfl rfl (xrecv (c := 2) (by decide) rfl (by decide +kernel)) s_Image_kindAt_51 ⟨rfl, rfl⟩ ?_
        refine Sp.id (pc := 34) (l := [some (.ref 51), none, some (.int y), some (.int x1.1), some (.int x1.2)]) (st := [.int (f_Image_kindAt_51 x1.1), .ref 51]) (h := hS X M) ?_
        refine Sp.call rfl rfl rfl (xrecv (c := 2) (by decide) rfl (by decide +kernel)) s_Image_at_51 (fun x6 => ⟨_, _, ⟨rfl, rfl⟩, ?_⟩)
        refine Sp.id (pc := 37) (l := [some (.ref 51), none, some (.int y), some (.int x1.1), some (.int x1.2)]) (st := [.int x6]) (h := hS X M) ?_
        refine Sp.step rfl rfl rfl rfl ?_
        refine Sp.step rfl rfl rfl rfl ?_
        refine Sp.step rfl rfl rfl rfl ?_
        exact Sp.jmp (l0 := [some (.ref 51), none, some (.int y), some (.int x6), some (.int (x1.2 + 1))]) ⟨rfl, rfl, rfl, rfl, trivial⟩ (fun _ _ h => h)
      · refine Sp.step rfl rfl rfl rfl ?_
        exact Sp.iret rfl rfl rfl rfl (fun _ _ h => h)
def f_Engine_isOf (x : Int32) (y : Int32) (X : XS) : Option Bool := (if x = 0 then some false else ((f_Memory_kindOf x X).bind fun x2 => ((f_Image_isBelow_51 x2 y X).bind fun x3 => (if x3 = true then some true else some false))))
set_option maxRecDepth 100000 in
set_option maxHeartbeats 4000000 in
theorem s_Engine_isOf {L : Nat} {xs : Nat → Int32} {X : XS} {M : MS} {x : Int32} {y : Int32} : Sp (mjOO L xs) 116 0 [some (.ref 40), some (.int x), some (.int y)] [] (hS X M) (f_Engine_isOf x y X) (KB (hS X M)) := by
  unfold f_Engine_isOf
  refine Sp.step rfl rfl rfl rfl ?_
  refine Sp.if1 rfl rfl rfl rfl (fun e1 => ?_) (fun e1 => ?_)
  · refine Sp.step rfl rfl rfl rfl ?_
    exact Sp.iret rfl rfl rfl rfl (fun _ _ h => h)
  · refine Sp.step rfl rfl rfl rfl ?_
    refine Sp.step rfl rfl rfl (xg_F (c := 0) (f := 6) rfl rfl rfl rfl rfl) ?_
    refine Sp.step rfl rfl rfl rfl ?_
    refine Sp.step rfl rfl rfl (xg_F (c := 0) (f := 3) rfl rfl rfl rfl rfl) ?_
    refine Sp.step rfl rfl rfl rfl ?_
    refine Sp.call rfl rfl rfl (xrecv (c := 4) (by decide) rfl (by decide +kernel)) s_Memory_kindOf (fun x2 => ⟨_, _, ⟨rfl, rfl⟩, ?_⟩)
    refine Sp.id (pc := 16) (l := [some (.ref 40), some (.int x), some (.int y)]) (st := [.int x2, .ref 51]) (h := hS X M) ?_
    refine Sp.step rfl rfl rfl rfl ?_
    refine Sp.call rfl rfl rfl (xrecv (c := 2) (by decide) rfl (by decide +kernel)) s_Image_isBelow_51 (fun x3 => ⟨_, _, ⟨rfl, rfl⟩, ?_⟩)
    refine Sp.bool (fun e4 => ?_) (fun e4 => ?_)
    · refine Sp.id (pc := 20) (l := [some (.ref 40), some (.int x), some (.int y)]) (st := [.int 1]) (h := hS X M) ?_
      refine Sp.step rfl rfl rfl rfl ?_
      refine Sp.step rfl rfl rfl rfl ?_
      refine Sp.step rfl rfl rfl rfl ?_
      exact Sp.iret rfl rfl rfl rfl (fun _ _ h => h)
    · refine Sp.id (pc := 20) (l := [some (.ref 40), some (.int x), some (.int y)]) (st := [.int 0]) (h := hS X M) ?_
      refine Sp.step rfl rfl rfl rfl ?_
      refine Sp.step rfl rfl rfl rfl ?_
      exact Sp.iret rfl rfl rfl rfl (fun _ _ h => h)
def f_Memory_intAt (x : Int32) (X : XS) : Option Int32 := ((f_Memory_word x X).bind fun x1 => ((f_Memory_word (x + 1) X).bind fun x2 => some (((x1 : Int32) <<< ((16 : Int32) &&& 31)) ||| x2)))
set_option maxRecDepth 100000 in
set_option maxHeartbeats 4000000 in
theorem s_Memory_intAt {L : Nat} {xs : Nat → Int32} {X : XS} {M : MS} {x : Int32} : Sp (mjOO L xs) 203 0 [some (.ref 41), some (.int x)] [] (hS X M) (f_Memory_intAt x X) (KQ (hS X M)) := by
  unfold f_Memory_intAt
  refine Sp.step rfl rfl rfl rfl ?_
  refine Sp.step rfl rfl rfl rfl ?_
  refine Sp.call rfl rfl rfl (xrecv (c := 4) (by decide) rfl (by decide +kernel)) s_Memory_word (fun x1 => ⟨_, _, ⟨rfl, rfl⟩, ?_⟩)
  refine Sp.id (pc := 5) (l := [some (.ref 41), some (.int x)]) (st := [.int x1]) (h := hS X M) ?_
  refine Sp.step rfl rfl rfl rfl ?_
  refine Sp.step rfl rfl rfl rfl ?_
  refine Sp.step rfl rfl rfl rfl ?_
  refine Sp.step rfl rfl rfl rfl ?_
  refine Sp.step rfl rfl rfl rfl ?_
  refine Sp.step rfl rfl rfl rfl ?_
  refine Sp.call rfl rfl rfl (xrecv (c := 4) (by decide) rfl (by decide +kernel)) s_Memory_word (fun x2 => ⟨_, _, ⟨rfl, rfl⟩, ?_⟩)
  refine Sp.id (pc := 15) (l := [some (.ref 41), some (.int x)]) (st := [.int x2, .int ((x1 : Int32) <<< ((16 : Int32) &&& 31))]) (h := hS X M) ?_
  refine Sp.step rfl rfl rfl rfl ?_
  exact Sp.iret rfl rfl rfl rfl (fun _ _ h => h)
def f_Memory_intField (x : Int32) (y : Int32) (X : XS) : Option Int32 := ((f_Memory_intAt ((x + 4) + (2 * y)) X).bind fun x1 => some x1)
set_option maxRecDepth 100000 in
set_option maxHeartbeats 4000000 in
theorem s_Memory_intField {L : Nat} {xs : Nat → Int32} {X : XS} {M : MS} {x : Int32} {y : Int32} : Sp (mjOO L xs) 208 0 [some (.ref 41), some (.int x), some (.int y)] [] (hS X M) (f_Memory_intField x y X) (KQ (hS X M)) := by
  unfold f_Memory_intField
  refine Sp.step rfl rfl rfl rfl ?_
  refine Sp.step rfl rfl rfl rfl ?_
  refine Sp.step rfl rfl rfl rfl ?_
  refine Sp.step rfl rfl rfl rfl ?_
  refine Sp.step rfl rfl rfl rfl ?_
  refine Sp.step rfl rfl rfl rfl ?_
  refine Sp.step rfl rfl rfl rfl ?_
  refine Sp.step rfl rfl rfl rfl ?_
  refine Sp.call rfl rfl rfl (xrecv (c := 4) (by decide) rfl (by decide +kernel)) s_Memory_intAt (fun x1 => ⟨_, _, ⟨rfl, rfl⟩, ?_⟩)
  refine Sp.id (pc := 11) (l := [some (.ref 41), some (.int x), some (.int y)]) (st := [.int x1]) (h := hS X M) ?_
  exact Sp.iret rfl rfl rfl rfl (fun _ _ h => h)
def f_Strand_push (x : Nat) (y : Int32) (X : XS) : Option XS := (if (xT X x = some (14, 0)) then ((f_Strand_pushMarked x y 0 X).bind fun x2 => some x2) else none)
set_option maxRecDepth 100000 in
set_option maxHeartbeats 4000000 in
theorem s_Strand_push {L : Nat} {xs : Nat → Int32} {X : XS} {M : MS} {x : Nat} {y : Int32} : Sp (mjOO L xs) 292 0 [some (.ref x), some (.int y)] [] (hS X M) (f_Strand_push x y X) (KVX M) := by
  unfold f_Strand_push
  refine Sp.step rfl rfl rfl rfl ?_
  refine Sp.step rfl rfl rfl rfl ?_
  refine Sp.step rfl rfl rfl rfl ?_
  refine Sp.guard (fun e1 => ?_)
  refine Sp.call rfl rfl rfl (xrecv (c := 9) (by decide) e1 (by decide +kernel)) s_Strand_pushMarked (fun x2 => ⟨_, _, ⟨rfl, rfl⟩, ?_⟩)
  refine Sp.id (pc := 6) (l := [some (.ref x), some (.int y)]) (st := []) (h := hS x2 M) ?_
  exact Sp.vret rfl rfl rfl (fun _ _ h => h)
def f_Memory_setIntAt (x : Int32) (y : Int32) (X : XS) : Option XS := ((f_Memory_setWord x (((y : Int32).toUInt32 >>> ((16 : Int32).toUInt32 &&& Int32.toUInt32 31)).toInt32) X).bind fun x1 => ((f_Memory_setWord (x + 1) y x1).bind fun x2 => some x2))
set_option maxRecDepth 100000 in
set_option maxHeartbeats 4000000 in
theorem s_Memory_setIntAt {L : Nat} {xs : Nat → Int32} {X : XS} {M : MS} {x : Int32} {y : Int32} : Sp (mjOO L xs) 204 0 [some (.ref 41), some (.int x), some (.int y)] [] (hS X M) (f_Memory_setIntAt x y X) (KVX M) := by
  unfold f_Memory_setIntAt
  refine Sp.step rfl rfl rfl rfl ?_
  refine Sp.step rfl rfl rfl rfl ?_
  refine Sp.step rfl rfl rfl rfl ?_
  refine Sp.step rfl rfl rfl rfl ?_
  refine Sp.step rfl rfl rfl rfl ?_
  refine Sp.call rfl rfl rfl (xrecv (c := 4) (by decide) rfl (by decide +kernel)) s_Memory_setWord (fun x1 => ⟨_, _, ⟨rfl, rfl⟩, ?_⟩)
  refine Sp.id (pc := 9) (l := [some (.ref 41), some (.int x), some (.int y)]) (st := []) (h := hS x1 M) ?_
  refine Sp.step rfl rfl rfl rfl ?_
  refine Sp.step rfl rfl rfl rfl ?_
  refine Sp.step rfl rfl rfl rfl ?_
  refine Sp.step rfl rfl rfl rfl ?_
  refine Sp.step rfl rfl rfl rfl ?_
  refine Sp.call rfl rfl rfl (xrecv (c := 4) (by decide) rfl (by decide +kernel)) s_Memory_setWord (fun x2 => ⟨_, _, ⟨rfl, rfl⟩, ?_⟩)
  refine Sp.id (pc := 17) (l := [some (.ref 41), some (.int x), some (.int y)]) (st := []) (h := hS x2 M) ?_
  exact Sp.vret rfl rfl rfl (fun _ _ h => h)
def f_Memory_setIntField (x : Int32) (y : Int32) (z : Int32) (X : XS) : Option XS := ((f_Memory_setIntAt ((x + 4) + (2 * y)) z X).bind fun x1 => some x1)
set_option maxRecDepth 100000 in
set_option maxHeartbeats 4000000 in
theorem s_Memory_setIntField {L : Nat} {xs : Nat → Int32} {X : XS} {M : MS} {x : Int32} {y : Int32} {z : Int32} : Sp (mjOO L xs) 209 0 [some (.ref 41), some (.int x), some (.int y), some (.int z)] [] (hS X M) (f_Memory_setIntField x y z X) (KVX M) := by
  unfold f_Memory_setIntField
  refine Sp.step rfl rfl rfl rfl ?_
  refine Sp.step rfl rfl rfl rfl ?_
  refine Sp.step rfl rfl rfl rfl ?_
  refine Sp.step rfl rfl rfl rfl ?_
  refine Sp.step rfl rfl rfl rfl ?_
  refine Sp.step rfl rfl rfl rfl ?_
  refine Sp.step rfl rfl rfl rfl ?_
  refine Sp.step rfl rfl rfl rfl ?_
  refine Sp.step rfl rfl rfl rfl ?_
  refine Sp.call rfl rfl rfl (xrecv (c := 4) (by decide) rfl (by decide +kernel)) s_Memory_setIntAt (fun x1 => ⟨_, _, ⟨rfl, rfl⟩, ?_⟩)
  refine Sp.id (pc := 12) (l := [some (.ref 41), some (.int x), some (.int y), some (.int z)]) (st := []) (h := hS x1 M) ?_
  exact Sp.vret rfl rfl rfl (fun _ _ h => h)
def f_Memory_refField (x : Int32) (y : Int32) (X : XS) : Option Int32 := ((f_Memory_firstRef x X).bind fun x1 => ((f_Memory_word (x1 + y) X).bind fun x2 => some x2))
set_option maxRecDepth 100000 in
set_option maxHeartbeats 4000000 in
theorem s_Memory_refField {L : Nat} {xs : Nat → Int32} {X : XS} {M : MS} {x : Int32} {y : Int32} : Sp (mjOO L xs) 210 0 [some (.ref 41), some (.int x), some (.int y)] [] (hS X M) (f_Memory_refField x y X) (KQ (hS X M)) := by
  unfold f_Memory_refField
  refine Sp.step rfl rfl rfl rfl ?_
  refine Sp.step rfl rfl rfl rfl ?_
  refine Sp.step rfl rfl rfl rfl ?_
  refine Sp.call rfl rfl rfl (xrecv (c := 4) (by decide) rfl (by decide +kernel)) s_Memory_firstRef (fun x1 => ⟨_, _, ⟨rfl, rfl⟩, ?_⟩)
  refine Sp.id (pc := 6) (l := [some (.ref 41), some (.int x), some (.int y)]) (st := [.int x1, .ref 41]) (h := hS X M) ?_
  refine Sp.step rfl rfl rfl rfl ?_
  refine Sp.step rfl rfl rfl rfl ?_
  refine Sp.call rfl rfl rfl (xrecv (c := 4) (by decide) rfl (by decide +kernel)) s_Memory_word (fun x2 => ⟨_, _, ⟨rfl, rfl⟩, ?_⟩)
  refine Sp.id (pc := 11) (l := [some (.ref 41), some (.int x), some (.int y)]) (st := [.int x2]) (h := hS X M) ?_
  exact Sp.iret rfl rfl rfl rfl (fun _ _ h => h)
def f_Memory_setRefField (x : Int32) (y : Int32) (z : Int32) (X : XS) : Option XS := ((f_Memory_firstRef x X).bind fun x1 => ((f_Memory_setWord (x1 + y) z X).bind fun x2 => some x2))
set_option maxRecDepth 100000 in
set_option maxHeartbeats 4000000 in
theorem s_Memory_setRefField {L : Nat} {xs : Nat → Int32} {X : XS} {M : MS} {x : Int32} {y : Int32} {z : Int32} : Sp (mjOO L xs) 211 0 [some (.ref 41), some (.int x), some (.int y), some (.int z)] [] (hS X M) (f_Memory_setRefField x y z X) (KVX M) := by
  unfold f_Memory_setRefField
  refine Sp.step rfl rfl rfl rfl ?_
  refine Sp.step rfl rfl rfl rfl ?_
  refine Sp.step rfl rfl rfl rfl ?_
  refine Sp.call rfl rfl rfl (xrecv (c := 4) (by decide) rfl (by decide +kernel)) s_Memory_firstRef (fun x1 => ⟨_, _, ⟨rfl, rfl⟩, ?_⟩)
  refine Sp.id (pc := 6) (l := [some (.ref 41), some (.int x), some (.int y), some (.int z)]) (st := [.int x1, .ref 41]) (h := hS X M) ?_
  refine Sp.step rfl rfl rfl rfl ?_
  refine Sp.step rfl rfl rfl rfl ?_
  refine Sp.step rfl rfl rfl rfl ?_
  refine Sp.call rfl rfl rfl (xrecv (c := 4) (by decide) rfl (by decide +kernel)) s_Memory_setWord (fun x2 => ⟨_, _, ⟨rfl, rfl⟩, ?_⟩)
  refine Sp.id (pc := 12) (l := [some (.ref 41), some (.int x), some (.int y), some (.int z)]) (st := []) (h := hS x2 M) ?_
  exact Sp.vret rfl rfl rfl (fun _ _ h => h)
def f_Engine_doField (x : Nat) (y : Int32) (z : Int32) (X : XS) : Option (Int32 × XS) := ((f_Image_at_51 (z + 2) X).bind fun x1 => (((if y = 28 then (if (xT X x = some (14, 0)) then ((f_Strand_pop x X).bind fun x4 => some (x4.1, x4.2)) else none) else (if ¬ y = 30 then some (0, X) else (if (xT X x = some (14, 0)) then ((f_Strand_pop x X).bind fun x7 => some (x7.1, x7.2)) else none))) : Option (Int32 × XS)).bind fun x8 => (if (xT x8.2 x = some (14, 0)) then ((f_Strand_pop x x8.2).bind fun x10 => (if ¬ x10.1 = 0 then ((f_Image_at_51 (z + 1) x10.2).bind fun x12 => ((f_Engine_isOf x10.1 x12 x10.2).bind fun x13 => (if x13 = true then (if y = 27 then ((f_Memory_intField x10.1 x1 x10.2).bind fun x17 => (if (xT x10.2 x = some (14, 0)) then ((f_Strand_push x x17 x10.2).bind fun x19 => some (0, x19)) else none)) else (if y = 28 then ((f_Memory_setIntField x10.1 x1 x8.1 x10.2).bind fun x21 => some (0, x21)) else (if y = 29 then ((f_Memory_refField x10.1 x1 x10.2).bind fun x23 => (if (xT x10.2 x = some (14, 0)) then ((f_Strand_pushRef x x23 x10.2).bind fun x25 => some (0, x25)) else none)) else ((f_Memory_setRefField x10.1 x1 x8.1 x10.2).bind fun x26 => some (0, x26))))) else some (3, x10.2)))) else some (1, x10.2))) else none)))
set_option maxRecDepth 100000 in
set_option maxHeartbeats 4000000 in
theorem s_Engine_doField {L : Nat} {xs : Nat → Int32} {X : XS} {M : MS} {x : Nat} {y : Int32} {z : Int32} : Sp (mjOO L xs) 115 0 [some (.ref 40), some (.ref x), some (.int y), some (.int z), none, none, none] [] (hS X M) (f_Engine_doField x y z X) (KEX M) := by
  unfold f_Engine_doField
  refine Sp.step rfl rfl rfl rfl ?_
  refine Sp.step rfl rfl rfl (xg_F (c := 0) (f := 6) rfl rfl rfl rfl rfl) ?_
  refine Sp.step rfl rfl rfl rfl ?_
  refine Sp.step rfl rfl rfl rfl ?_
  refine Sp.step rfl rfl rfl rfl ?_
  refine Sp.call rfl rfl rfl (xrecv (c := 2) (by decide) rfl (by decide +kernel)) s_Image_at_51 (fun x1 => ⟨_, _, ⟨rfl, rfl⟩, ?_⟩)
  refine Sp.id (pc := 10) (l := [some (.ref 40), some (.ref x), some (.int y), some (.int z), none, none, none]) (st := [.int x1]) (h := hS X M) ?_
  refine Sp.step rfl rfl rfl rfl ?_
  refine Sp.step rfl rfl rfl rfl ?_
  refine Sp.step rfl rfl rfl rfl ?_
  refine Sp.piece (pe := 32) (mf := (fun (x8 : Int32 × XS) => [some (.ref 40), some (.ref x), some (.int y), some (.int z), some (.int x1), none, none])) (sf := (fun (x8 : Int32 × XS) => [.int x8.1])) (hf := (fun (x8 : Int32 × XS) => hS x8.2 M)) ?_ (fun x8 => ?_)
  · refine Sp.if2 rfl rfl rfl rfl (fun e2 => ?_) (fun e2 => ?_)
    · refine Sp.step rfl rfl rfl rfl ?_
      refine Sp.guard (fun e3 => ?_)
      refine Sp.call rfl rfl rfl (xrecv (c := 9) (by decide) e3 (by decide +kernel)) s_Strand_pop (fun x4 => ⟨_, _, ⟨rfl, rfl⟩, ?_⟩)
      refine Sp.id (pc := 28) (l := [some (.ref 40), some (.ref x), some (.int y), some (.int z), some (.int x1), none, none]) (st := [.int x4.1]) (h := hS x4.2 M) ?_
      refine Sp.step rfl rfl rfl rfl ?_
      exact Sp.jmp (l0 := [some (.ref 40), some (.ref x), some (.int y), some (.int z), some (.int x1), none, none]) ⟨rfl, rfl, rfl, rfl, rfl, trivial⟩ (fun _ _ h => h)
    · refine Sp.step rfl rfl rfl rfl ?_
      refine Sp.step rfl rfl rfl rfl ?_
      refine Sp.if2 rfl rfl rfl rfl (fun e5 => ?_) (fun e5 => ?_)
      · refine Sp.step rfl rfl rfl rfl ?_
        exact Sp.jmp (l0 := [some (.ref 40), some (.ref x), some (.int y), some (.int z), some (.int x1), none, none]) ⟨rfl, rfl, rfl, rfl, rfl, trivial⟩ (fun _ _ h => h)
      · refine Sp.step rfl rfl rfl rfl ?_
        refine Sp.guard (fun e6 => ?_)
        refine Sp.call rfl rfl rfl (xrecv (c := 9) (by decide) e6 (by decide +kernel)) s_Strand_pop (fun x7 => ⟨_, _, ⟨rfl, rfl⟩, ?_⟩)
        refine Sp.id (pc := 28) (l := [some (.ref 40), some (.ref x), some (.int y), some (.int z), some (.int x1), none, none]) (st := [.int x7.1]) (h := hS x7.2 M) ?_
        refine Sp.step rfl rfl rfl rfl ?_
        exact Sp.jmp (l0 := [some (.ref 40), some (.ref x), some (.int y), some (.int z), some (.int x1), none, none]) ⟨rfl, rfl, rfl, rfl, rfl, trivial⟩ (fun _ _ h => h)
  · refine Sp.step rfl rfl rfl rfl ?_
    refine Sp.step rfl rfl rfl rfl ?_
    refine Sp.guard (fun e9 => ?_)
    refine Sp.call rfl rfl rfl (xrecv (c := 9) (by decide) e9 (by decide +kernel)) s_Strand_pop (fun x10 => ⟨_, _, ⟨rfl, rfl⟩, ?_⟩)
    refine Sp.id (pc := 38) (l := [some (.ref 40), some (.ref x), some (.int y), some (.int z), some (.int x1), some (.int x8.1), none]) (st := [.int x10.1]) (h := hS x10.2 M) ?_
    refine Sp.step rfl rfl rfl rfl ?_
    refine Sp.step rfl rfl rfl rfl ?_
    refine Sp.if1 rfl rfl rfl rfl (fun e11 => ?_) (fun e11 => ?_)
    · refine Sp.step rfl rfl rfl rfl ?_
      refine Sp.step rfl rfl rfl rfl ?_
      refine Sp.step rfl rfl rfl rfl ?_
      refine Sp.step rfl rfl rfl (xg_F (c := 0) (f := 6) rfl rfl rfl rfl rfl) ?_
      refine Sp.step rfl rfl rfl rfl ?_
      refine Sp.step rfl rfl rfl rfl ?_
      refine Sp.step rfl rfl rfl rfl ?_
      refine Sp.call rfl rfl rfl (xrecv (c := 2) (by decide) rfl (by decide +kernel)) s_Image_at_51 (fun x12 => ⟨_, _, ⟨rfl, rfl⟩, ?_⟩)
      refine Sp.id (pc := 60) (l := [some (.ref 40), some (.ref x), some (.int y), some (.int z), some (.int x1), some (.int x8.1), some (.int x10.1)]) (st := [.int x12, .int x10.1, .ref 40]) (h := hS x10.2 M) ?_
      refine Sp.call rfl rfl rfl (xrecv (c := 0) (by decide) rfl (by decide +kernel)) s_Engine_isOf (fun x13 => ⟨_, _, ⟨rfl, rfl⟩, ?_⟩)
      refine Sp.bool (fun e14 => ?_) (fun e14 => ?_)
      · refine Sp.id (pc := 63) (l := [some (.ref 40), some (.ref x), some (.int y), some (.int z), some (.int x1), some (.int x8.1), some (.int x10.1)]) (st := [.int 1]) (h := hS x10.2 M) ?_
        refine Sp.step rfl rfl rfl rfl ?_
        refine Sp.step rfl rfl rfl rfl ?_
        refine Sp.ite (fun e16 => ?_) (fun e16 => ?_)
        · refine Sp.step rfl rfl rfl (go_sw (t := 96) (sw_of e16 rfl)) ?_
          refine Sp.step rfl rfl rfl rfl ?_
          refine Sp.step rfl rfl rfl rfl ?_
          refine Sp.step rfl rfl rfl (xg_F (c := 0) (f := 3) rfl rfl rfl rfl rfl) ?_
          refine Sp.step rfl rfl rfl rfl ?_
          refine Sp.step rfl rfl rfl rfl ?_
          refine Sp.call rfl rfl rfl (xrecv (c := 4) (by decide) rfl (by decide +kernel)) s_Memory_intField (fun x17 => ⟨_, _, ⟨rfl, rfl⟩, ?_⟩)
          refine Sp.id (pc := 108) (l := [some (.ref 40), some (.ref x), some (.int y), some (.int z), some (.int x1), some (.int x8.1), some (.int x10.1)]) (st := [.int x17, .ref x]) (h := hS x10.2 M) ?_
          refine Sp.guard (fun e18 => ?_)
          refine Sp.call rfl rfl rfl (xrecv (c := 9) (by decide) e18 (by decide +kernel)) s_Strand_push (fun x19 => ⟨_, _, ⟨rfl, rfl⟩, ?_⟩)
          refine Sp.id (pc := 111) (l := [some (.ref 40), some (.ref x), some (.int y), some (.int z), some (.int x1), some (.int x8.1), some (.int x10.1)]) (st := []) (h := hS x19 M) ?_
          refine Sp.step rfl rfl rfl rfl ?_
          refine Sp.step rfl rfl rfl rfl ?_
          exact Sp.iret rfl rfl rfl rfl (fun _ _ h => h)
        · refine Sp.ite (fun e20 => ?_) (fun e20 => ?_)
          · refine Sp.step rfl rfl rfl (go_sw (t := 114) (sw_of e20 rfl)) ?_
            refine Sp.step rfl rfl rfl rfl ?_
            refine Sp.step rfl rfl rfl (xg_F (c := 0) (f := 3) rfl rfl rfl rfl rfl) ?_
            refine Sp.step rfl rfl rfl rfl ?_
            refine Sp.step rfl rfl rfl rfl ?_
            refine Sp.step rfl rfl rfl rfl ?_
            refine Sp.call rfl rfl rfl (xrecv (c := 4) (by decide) rfl (by decide +kernel)) s_Memory_setIntField (fun x21 => ⟨_, _, ⟨rfl, rfl⟩, ?_⟩)
            refine Sp.id (pc := 127) (l := [some (.ref 40), some (.ref x), some (.int y), some (.int z), some (.int x1), some (.int x8.1), some (.int x10.1)]) (st := []) (h := hS x21 M) ?_
            refine Sp.step rfl rfl rfl rfl ?_
            refine Sp.step rfl rfl rfl rfl ?_
            exact Sp.iret rfl rfl rfl rfl (fun _ _ h => h)
          · refine Sp.ite (fun e22 => ?_) (fun e22 => ?_)
            · refine Sp.step rfl rfl rfl (go_sw (t := 130) (sw_of e22 rfl)) ?_
              refine Sp.step rfl rfl rfl rfl ?_
              refine Sp.step rfl rfl rfl rfl ?_
              refine Sp.step rfl rfl rfl (xg_F (c := 0) (f := 3) rfl rfl rfl rfl rfl) ?_
              refine Sp.step rfl rfl rfl rfl ?_
              refine Sp.step rfl rfl rfl rfl ?_
              refine Sp.call rfl rfl rfl (xrecv (c := 4) (by decide) rfl (by decide +kernel)) s_Memory_refField (fun x23 => ⟨_, _, ⟨rfl, rfl⟩, ?_⟩)
              refine Sp.id (pc := 142) (l := [some (.ref 40), some (.ref x), some (.int y), some (.int z), some (.int x1), some (.int x8.1), some (.int x10.1)]) (st := [.int x23, .ref x]) (h := hS x10.2 M) ?_
              refine Sp.guard (fun e24 => ?_)
              refine Sp.call rfl rfl rfl (xrecv (c := 9) (by decide) e24 (by decide +kernel)) s_Strand_pushRef (fun x25 => ⟨_, _, ⟨rfl, rfl⟩, ?_⟩)
              refine Sp.id (pc := 145) (l := [some (.ref 40), some (.ref x), some (.int y), some (.int z), some (.int x1), some (.int x8.1), some (.int x10.1)]) (st := []) (h := hS x25 M) ?_
              refine Sp.step rfl rfl rfl rfl ?_
              refine Sp.step rfl rfl rfl rfl ?_
              exact Sp.iret rfl rfl rfl rfl (fun _ _ h => h)
            · refine Sp.step rfl rfl rfl (go_sw (t := 148) (mjSw_dflt _ (by
                intro q hq
                simp only [List.mem_cons, List.not_mem_nil, or_false] at hq
                rcases hq with rfl | rfl | rfl
                · exact fun h => absurd h (fun h => e16 h)
                · exact fun h => absurd h (fun h => e20 h)
                · exact fun h => absurd h (fun h => e22 h)))) ?_
              refine Sp.step rfl rfl rfl rfl ?_
              refine Sp.step rfl rfl rfl (xg_F (c := 0) (f := 3) rfl rfl rfl rfl rfl) ?_
              refine Sp.step rfl rfl rfl rfl ?_
              refine Sp.step rfl rfl rfl rfl ?_
              refine Sp.step rfl rfl rfl rfl ?_
              refine Sp.call rfl rfl rfl (xrecv (c := 4) (by decide) rfl (by decide +kernel)) s_Memory_setRefField (fun x26 => ⟨_, _, ⟨rfl, rfl⟩, ?_⟩)
              refine Sp.id (pc := 161) (l := [some (.ref 40), some (.ref x), some (.int y), some (.int z), some (.int x1), some (.int x8.1), some (.int x10.1)]) (st := []) (h := hS x26 M) ?_
              refine Sp.step rfl rfl rfl rfl ?_
              exact Sp.iret rfl rfl rfl rfl (fun _ _ h => h)
      · refine Sp.id (pc := 63) (l := [some (.ref 40), some (.ref x), some (.int y), some (.int z), some (.int x1), some (.int x8.1), some (.int x10.1)]) (st := [.int 0]) (h := hS x10.2 M) ?_
        refine Sp.step rfl rfl rfl rfl ?_
        refine Sp.step rfl rfl rfl rfl ?_
        exact Sp.iret rfl rfl rfl rfl (fun _ _ h => h)
    · refine Sp.step rfl rfl rfl rfl ?_
      exact Sp.iret rfl rfl rfl rfl (fun _ _ h => h)
def f_Memory_isArray (x : Int32) (X : XS) : Option Bool := ((f_Memory_word x X).bind fun x1 => (if x1 = 254 then some true else (if ¬ x1 = 255 then some false else some true)))
set_option maxRecDepth 100000 in
set_option maxHeartbeats 4000000 in
theorem s_Memory_isArray {L : Nat} {xs : Nat → Int32} {X : XS} {M : MS} {x : Int32} : Sp (mjOO L xs) 206 0 [some (.ref 41), some (.int x), none] [] (hS X M) (f_Memory_isArray x X) (KB (hS X M)) := by
  unfold f_Memory_isArray
  refine Sp.step rfl rfl rfl rfl ?_
  refine Sp.step rfl rfl rfl rfl ?_
  refine Sp.call rfl rfl rfl (xrecv (c := 4) (by decide) rfl (by decide +kernel)) s_Memory_word (fun x1 => ⟨_, _, ⟨rfl, rfl⟩, ?_⟩)
  refine Sp.id (pc := 5) (l := [some (.ref 41), some (.int x), none]) (st := [.int x1]) (h := hS X M) ?_
  refine Sp.step rfl rfl rfl rfl ?_
  refine Sp.step rfl rfl rfl rfl ?_
  refine Sp.step rfl rfl rfl rfl ?_
  refine Sp.if2 rfl rfl rfl rfl (fun e2 => ?_) (fun e2 => ?_)
  · refine Sp.step rfl rfl rfl rfl ?_
    refine Sp.step rfl rfl rfl rfl ?_
    exact Sp.iret rfl rfl rfl rfl (fun _ _ h => h)
  · refine Sp.step rfl rfl rfl rfl ?_
    refine Sp.step rfl rfl rfl rfl ?_
    refine Sp.if2 rfl rfl rfl rfl (fun e3 => ?_) (fun e3 => ?_)
    · refine Sp.step rfl rfl rfl rfl ?_
      exact Sp.iret rfl rfl rfl rfl (fun _ _ h => h)
    · refine Sp.step rfl rfl rfl rfl ?_
      refine Sp.step rfl rfl rfl rfl ?_
      exact Sp.iret rfl rfl rfl rfl (fun _ _ h => h)
def f_Memory_lengthOf (x : Int32) (X : XS) : Option Int32 := ((f_Memory_isArray x X).bind fun x1 => (if x1 = true then ((f_Memory_word (x + 4) X).bind fun x4 => some x4) else some 0))
set_option maxRecDepth 100000 in
set_option maxHeartbeats 4000000 in
theorem s_Memory_lengthOf {L : Nat} {xs : Nat → Int32} {X : XS} {M : MS} {x : Int32} : Sp (mjOO L xs) 207 0 [some (.ref 41), some (.int x)] [] (hS X M) (f_Memory_lengthOf x X) (KQ (hS X M)) := by
  unfold f_Memory_lengthOf
  refine Sp.step rfl rfl rfl rfl ?_
  refine Sp.step rfl rfl rfl rfl ?_
  refine Sp.call rfl rfl rfl (xrecv (c := 4) (by decide) rfl (by decide +kernel)) s_Memory_isArray (fun x1 => ⟨_, _, ⟨rfl, rfl⟩, ?_⟩)
  refine Sp.bool (fun e2 => ?_) (fun e2 => ?_)
  · refine Sp.id (pc := 5) (l := [some (.ref 41), some (.int x)]) (st := [.int 1]) (h := hS X M) ?_
    refine Sp.step rfl rfl rfl rfl ?_
    refine Sp.step rfl rfl rfl rfl ?_
    refine Sp.step rfl rfl rfl rfl ?_
    refine Sp.step rfl rfl rfl rfl ?_
    refine Sp.step rfl rfl rfl rfl ?_
    refine Sp.call rfl rfl rfl (xrecv (c := 4) (by decide) rfl (by decide +kernel)) s_Memory_word (fun x4 => ⟨_, _, ⟨rfl, rfl⟩, ?_⟩)
    refine Sp.id (pc := 15) (l := [some (.ref 41), some (.int x)]) (st := [.int x4]) (h := hS X M) ?_
    refine Sp.step rfl rfl rfl rfl ?_
    exact Sp.iret rfl rfl rfl rfl (fun _ _ h => h)
  · refine Sp.id (pc := 5) (l := [some (.ref 41), some (.int x)]) (st := [.int 0]) (h := hS X M) ?_
    refine Sp.step rfl rfl rfl rfl ?_
    refine Sp.step rfl rfl rfl rfl ?_
    exact Sp.iret rfl rfl rfl rfl (fun _ _ h => h)
def f_Memory_intPlace (x : Int32) (y : Int32) (X : XS) : Option Int32 := ((f_Memory_intAt ((x + 5) + (2 * y)) X).bind fun x1 => some x1)
set_option maxRecDepth 100000 in
set_option maxHeartbeats 4000000 in
theorem s_Memory_intPlace {L : Nat} {xs : Nat → Int32} {X : XS} {M : MS} {x : Int32} {y : Int32} : Sp (mjOO L xs) 212 0 [some (.ref 41), some (.int x), some (.int y)] [] (hS X M) (f_Memory_intPlace x y X) (KQ (hS X M)) := by
  unfold f_Memory_intPlace
  refine Sp.step rfl rfl rfl rfl ?_
  refine Sp.step rfl rfl rfl rfl ?_
  refine Sp.step rfl rfl rfl rfl ?_
  refine Sp.step rfl rfl rfl rfl ?_
  refine Sp.step rfl rfl rfl rfl ?_
  refine Sp.step rfl rfl rfl rfl ?_
  refine Sp.step rfl rfl rfl rfl ?_
  refine Sp.step rfl rfl rfl rfl ?_
  refine Sp.call rfl rfl rfl (xrecv (c := 4) (by decide) rfl (by decide +kernel)) s_Memory_intAt (fun x1 => ⟨_, _, ⟨rfl, rfl⟩, ?_⟩)
  refine Sp.id (pc := 11) (l := [some (.ref 41), some (.int x), some (.int y)]) (st := [.int x1]) (h := hS X M) ?_
  exact Sp.iret rfl rfl rfl rfl (fun _ _ h => h)
def f_Memory_setIntPlace (x : Int32) (y : Int32) (z : Int32) (X : XS) : Option XS := ((f_Memory_setIntAt ((x + 5) + (2 * y)) z X).bind fun x1 => some x1)
set_option maxRecDepth 100000 in
set_option maxHeartbeats 4000000 in
theorem s_Memory_setIntPlace {L : Nat} {xs : Nat → Int32} {X : XS} {M : MS} {x : Int32} {y : Int32} {z : Int32} : Sp (mjOO L xs) 213 0 [some (.ref 41), some (.int x), some (.int y), some (.int z)] [] (hS X M) (f_Memory_setIntPlace x y z X) (KVX M) := by
  unfold f_Memory_setIntPlace
  refine Sp.step rfl rfl rfl rfl ?_
  refine Sp.step rfl rfl rfl rfl ?_
  refine Sp.step rfl rfl rfl rfl ?_
  refine Sp.step rfl rfl rfl rfl ?_
  refine Sp.step rfl rfl rfl rfl ?_
  refine Sp.step rfl rfl rfl rfl ?_
  refine Sp.step rfl rfl rfl rfl ?_
  refine Sp.step rfl rfl rfl rfl ?_
  refine Sp.step rfl rfl rfl rfl ?_
  refine Sp.call rfl rfl rfl (xrecv (c := 4) (by decide) rfl (by decide +kernel)) s_Memory_setIntAt (fun x1 => ⟨_, _, ⟨rfl, rfl⟩, ?_⟩)
  refine Sp.id (pc := 12) (l := [some (.ref 41), some (.int x), some (.int y), some (.int z)]) (st := []) (h := hS x1 M) ?_
  exact Sp.vret rfl rfl rfl (fun _ _ h => h)
def f_Memory_refPlace (x : Int32) (y : Int32) (X : XS) : Option Int32 := ((f_Memory_word ((x + 5) + y) X).bind fun x1 => some x1)
set_option maxRecDepth 100000 in
set_option maxHeartbeats 4000000 in
theorem s_Memory_refPlace {L : Nat} {xs : Nat → Int32} {X : XS} {M : MS} {x : Int32} {y : Int32} : Sp (mjOO L xs) 214 0 [some (.ref 41), some (.int x), some (.int y)] [] (hS X M) (f_Memory_refPlace x y X) (KQ (hS X M)) := by
  unfold f_Memory_refPlace
  refine Sp.step rfl rfl rfl rfl ?_
  refine Sp.step rfl rfl rfl rfl ?_
  refine Sp.step rfl rfl rfl rfl ?_
  refine Sp.step rfl rfl rfl rfl ?_
  refine Sp.step rfl rfl rfl rfl ?_
  refine Sp.step rfl rfl rfl rfl ?_
  refine Sp.call rfl rfl rfl (xrecv (c := 4) (by decide) rfl (by decide +kernel)) s_Memory_word (fun x1 => ⟨_, _, ⟨rfl, rfl⟩, ?_⟩)
  refine Sp.id (pc := 9) (l := [some (.ref 41), some (.int x), some (.int y)]) (st := [.int x1]) (h := hS X M) ?_
  exact Sp.iret rfl rfl rfl rfl (fun _ _ h => h)
def f_Memory_setRefPlace (x : Int32) (y : Int32) (z : Int32) (X : XS) : Option XS := ((f_Memory_setWord ((x + 5) + y) z X).bind fun x1 => some x1)
set_option maxRecDepth 100000 in
set_option maxHeartbeats 4000000 in
theorem s_Memory_setRefPlace {L : Nat} {xs : Nat → Int32} {X : XS} {M : MS} {x : Int32} {y : Int32} {z : Int32} : Sp (mjOO L xs) 215 0 [some (.ref 41), some (.int x), some (.int y), some (.int z)] [] (hS X M) (f_Memory_setRefPlace x y z X) (KVX M) := by
  unfold f_Memory_setRefPlace
  refine Sp.step rfl rfl rfl rfl ?_
  refine Sp.step rfl rfl rfl rfl ?_
  refine Sp.step rfl rfl rfl rfl ?_
  refine Sp.step rfl rfl rfl rfl ?_
  refine Sp.step rfl rfl rfl rfl ?_
  refine Sp.step rfl rfl rfl rfl ?_
  refine Sp.step rfl rfl rfl rfl ?_
  refine Sp.call rfl rfl rfl (xrecv (c := 4) (by decide) rfl (by decide +kernel)) s_Memory_setWord (fun x1 => ⟨_, _, ⟨rfl, rfl⟩, ?_⟩)
  refine Sp.id (pc := 10) (l := [some (.ref 41), some (.int x), some (.int y), some (.int z)]) (st := []) (h := hS x1 M) ?_
  exact Sp.vret rfl rfl rfl (fun _ _ h => h)
def f_Engine_doPlace (x : Nat) (y : Int32) (X : XS) : Option (Int32 × XS) := (((if y = 33 then some 1 else (if ¬ y = 37 then some 0 else some 1)) : Option (Int32)).bind fun x3 => (((if y = 32 then some 1 else (if ¬ y = 33 then some 0 else some 1)) : Option (Int32)).bind fun x6 => (((if x3 = 0 then some (0, X) else (if (xT X x = some (14, 0)) then ((f_Strand_pop x X).bind fun x9 => some (x9.1, x9.2)) else none)) : Option (Int32 × XS)).bind fun x10 => (if (xT x10.2 x = some (14, 0)) then ((f_Strand_pop x x10.2).bind fun x12 => (if (xT x12.2 x = some (14, 0)) then ((f_Strand_pop x x12.2).bind fun x14 => (if ¬ x14.1 = 0 then ((f_Memory_kindOf x14.1 x14.2).bind fun x16 => (((if x6 = 0 then some 255 else some 254) : Option (Int32)).bind fun x18 => (if x16 = x18 then (if x12.1 < 0 then some (5, x14.2) else ((f_Memory_lengthOf x14.1 x14.2).bind fun x21 => (if x12.1 < x21 then (if y = 32 then ((f_Memory_intPlace x14.1 x12.1 x14.2).bind fun x24 => (if (xT x14.2 x = some (14, 0)) then ((f_Strand_push x x24 x14.2).bind fun x26 => some (0, x26)) else none)) else (if y = 33 then ((f_Memory_setIntPlace x14.1 x12.1 x10.1 x14.2).bind fun x28 => some (0, x28)) else (if y = 36 then ((f_Memory_refPlace x14.1 x12.1 x14.2).bind fun x30 => (if (xT x14.2 x = some (14, 0)) then ((f_Strand_pushRef x x30 x14.2).bind fun x32 => some (0, x32)) else none)) else ((f_Memory_setRefPlace x14.1 x12.1 x10.1 x14.2).bind fun x33 => some (0, x33))))) else some (5, x14.2)))) else some (3, x14.2)))) else some (1, x14.2))) else none)) else none))))
set_option maxRecDepth 100000 in
set_option maxHeartbeats 4000000 in
theorem s_Engine_doPlace {L : Nat} {xs : Nat → Int32} {X : XS} {M : MS} {x : Nat} {y : Int32} : Sp (mjOO L xs) 120 0 [some (.ref 40), some (.ref x), some (.int y), none, none, none, none, none] [] (hS X M) (f_Engine_doPlace x y X) (KEX M) := by
  unfold f_Engine_doPlace
  refine Sp.step rfl rfl rfl rfl ?_
  refine Sp.step rfl rfl rfl rfl ?_
  refine Sp.piece (pe := 17) (mf := (fun (x3 : Int32) => [some (.ref 40), some (.ref x), some (.int y), none, none, none, none, none])) (sf := (fun (x3 : Int32) => [.int x3])) (hf := (fun (x3 : Int32) => hS X M)) ?_ (fun x3 => ?_)
  · refine Sp.if2 rfl rfl rfl rfl (fun e1 => ?_) (fun e1 => ?_)
    · refine Sp.step rfl rfl rfl rfl ?_
      refine Sp.step rfl rfl rfl rfl ?_
      exact Sp.jmp (l0 := [some (.ref 40), some (.ref x), some (.int y), none, none, none, none, none]) ⟨rfl, rfl, rfl, trivial⟩ (fun _ _ h => h)
    · refine Sp.step rfl rfl rfl rfl ?_
      refine Sp.step rfl rfl rfl rfl ?_
      refine Sp.if2 rfl rfl rfl rfl (fun e2 => ?_) (fun e2 => ?_)
      · refine Sp.step rfl rfl rfl rfl ?_
        exact Sp.jmp (l0 := [some (.ref 40), some (.ref x), some (.int y), none, none, none, none, none]) ⟨rfl, rfl, rfl, trivial⟩ (fun _ _ h => h)
      · refine Sp.step rfl rfl rfl rfl ?_
        refine Sp.step rfl rfl rfl rfl ?_
        exact Sp.jmp (l0 := [some (.ref 40), some (.ref x), some (.int y), none, none, none, none, none]) ⟨rfl, rfl, rfl, trivial⟩ (fun _ _ h => h)
  · refine Sp.step rfl rfl rfl rfl ?_
    refine Sp.step rfl rfl rfl rfl ?_
    refine Sp.step rfl rfl rfl rfl ?_
    refine Sp.piece (pe := 35) (mf := (fun (x6 : Int32) => [some (.ref 40), some (.ref x), some (.int y), some (.int x3), none, none, none, none])) (sf := (fun (x6 : Int32) => [.int x6])) (hf := (fun (x6 : Int32) => hS X M)) ?_ (fun x6 => ?_)
    · refine Sp.if2 rfl rfl rfl rfl (fun e4 => ?_) (fun e4 => ?_)
      · refine Sp.step rfl rfl rfl rfl ?_
        refine Sp.step rfl rfl rfl rfl ?_
        exact Sp.jmp (l0 := [some (.ref 40), some (.ref x), some (.int y), some (.int x3), none, none, none, none]) ⟨rfl, rfl, rfl, rfl, trivial⟩ (fun _ _ h => h)
      · refine Sp.step rfl rfl rfl rfl ?_
        refine Sp.step rfl rfl rfl rfl ?_
        refine Sp.if2 rfl rfl rfl rfl (fun e5 => ?_) (fun e5 => ?_)
        · refine Sp.step rfl rfl rfl rfl ?_
          exact Sp.jmp (l0 := [some (.ref 40), some (.ref x), some (.int y), some (.int x3), none, none, none, none]) ⟨rfl, rfl, rfl, rfl, trivial⟩ (fun _ _ h => h)
        · refine Sp.step rfl rfl rfl rfl ?_
          refine Sp.step rfl rfl rfl rfl ?_
          exact Sp.jmp (l0 := [some (.ref 40), some (.ref x), some (.int y), some (.int x3), none, none, none, none]) ⟨rfl, rfl, rfl, rfl, trivial⟩ (fun _ _ h => h)
    · refine Sp.step rfl rfl rfl rfl ?_
      refine Sp.step rfl rfl rfl rfl ?_
      refine Sp.piece (pe := 49) (mf := (fun (x10 : Int32 × XS) => [some (.ref 40), some (.ref x), some (.int y), none, some (.int x6), none, none, none])) (sf := (fun (x10 : Int32 × XS) => [.int x10.1])) (hf := (fun (x10 : Int32 × XS) => hS x10.2 M)) ?_ (fun x10 => ?_)
      · refine Sp.if1 rfl rfl rfl rfl (fun e7 => ?_) (fun e7 => ?_)
        · refine Sp.step rfl rfl rfl rfl ?_
          exact Sp.jmp (l0 := [some (.ref 40), some (.ref x), some (.int y), none, some (.int x6), none, none, none]) ⟨rfl, rfl, rfl, rfl, trivial⟩ (fun _ _ h => h)
        · refine Sp.step rfl rfl rfl rfl ?_
          refine Sp.guard (fun e8 => ?_)
          refine Sp.call rfl rfl rfl (xrecv (c := 9) (by decide) e8 (by decide +kernel)) s_Strand_pop (fun x9 => ⟨_, _, ⟨rfl, rfl⟩, ?_⟩)
          refine Sp.id (pc := 45) (l := [some (.ref 40), some (.ref x), some (.int y), some (.int x3), some (.int x6), none, none, none]) (st := [.int x9.1]) (h := hS x9.2 M) ?_
          refine Sp.step rfl rfl rfl rfl ?_
          exact Sp.jmp (l0 := [some (.ref 40), some (.ref x), some (.int y), none, some (.int x6), none, none, none]) ⟨rfl, rfl, rfl, rfl, trivial⟩ (fun _ _ h => h)
      · refine Sp.step rfl rfl rfl rfl ?_
        refine Sp.step rfl rfl rfl rfl ?_
        refine Sp.guard (fun e11 => ?_)
        refine Sp.call rfl rfl rfl (xrecv (c := 9) (by decide) e11 (by decide +kernel)) s_Strand_pop (fun x12 => ⟨_, _, ⟨rfl, rfl⟩, ?_⟩)
        refine Sp.id (pc := 55) (l := [some (.ref 40), some (.ref x), some (.int y), none, some (.int x6), some (.int x10.1), none, none]) (st := [.int x12.1]) (h := hS x12.2 M) ?_
        refine Sp.step rfl rfl rfl rfl ?_
        refine Sp.step rfl rfl rfl rfl ?_
        refine Sp.guard (fun e13 => ?_)
        refine Sp.call rfl rfl rfl (xrecv (c := 9) (by decide) e13 (by decide +kernel)) s_Strand_pop (fun x14 => ⟨_, _, ⟨rfl, rfl⟩, ?_⟩)
        refine Sp.id (pc := 61) (l := [some (.ref 40), some (.ref x), some (.int y), none, some (.int x6), some (.int x10.1), some (.int x12.1), none]) (st := [.int x14.1]) (h := hS x14.2 M) ?_
        refine Sp.step rfl rfl rfl rfl ?_
        refine Sp.step rfl rfl rfl rfl ?_
        refine Sp.if1 rfl rfl rfl rfl (fun e15 => ?_) (fun e15 => ?_)
        · refine Sp.step rfl rfl rfl rfl ?_
          refine Sp.step rfl rfl rfl (xg_F (c := 0) (f := 3) rfl rfl rfl rfl rfl) ?_
          refine Sp.step rfl rfl rfl rfl ?_
          refine Sp.call rfl rfl rfl (xrecv (c := 4) (by decide) rfl (by decide +kernel)) s_Memory_kindOf (fun x16 => ⟨_, _, ⟨rfl, rfl⟩, ?_⟩)
          refine Sp.id (pc := 79) (l := [some (.ref 40), some (.ref x), some (.int y), none, some (.int x6), some (.int x10.1), some (.int x12.1), some (.int x14.1)]) (st := [.int x16]) (h := hS x14.2 M) ?_
          refine Sp.step rfl rfl rfl rfl ?_
          refine Sp.piece (pe := 93) (mf := (fun (x18 : Int32) => [some (.ref 40), some (.ref x), some (.int y), none, none, some (.int x10.1), some (.int x12.1), some (.int x14.1)])) (sf := (fun (x18 : Int32) => [.int x18, .int x16])) (hf := (fun (x18 : Int32) => hS x14.2 M)) ?_ (fun x18 => ?_)
          · refine Sp.if1 rfl rfl rfl rfl (fun e17 => ?_) (fun e17 => ?_)
            · refine Sp.step rfl rfl rfl rfl ?_
              exact Sp.jmp (l0 := [some (.ref 40), some (.ref x), some (.int y), none, none, some (.int x10.1), some (.int x12.1), some (.int x14.1)]) ⟨rfl, rfl, rfl, rfl, rfl, rfl, trivial⟩ (fun _ _ h => h)
            · refine Sp.step rfl rfl rfl rfl ?_
              refine Sp.step rfl rfl rfl rfl ?_
              exact Sp.jmp (l0 := [some (.ref 40), some (.ref x), some (.int y), none, none, some (.int x10.1), some (.int x12.1), some (.int x14.1)]) ⟨rfl, rfl, rfl, rfl, rfl, rfl, trivial⟩ (fun _ _ h => h)
          · refine Sp.if2 rfl rfl rfl rfl (fun e19 => ?_) (fun e19 => ?_)
            · refine Sp.step rfl rfl rfl rfl ?_
              refine Sp.if1 rfl rfl rfl rfl (fun e20 => ?_) (fun e20 => ?_)
              · refine Sp.step rfl rfl rfl rfl ?_
                exact Sp.iret rfl rfl rfl rfl (fun _ _ h => h)
              · refine Sp.step rfl rfl rfl rfl ?_
                refine Sp.step rfl rfl rfl rfl ?_
                refine Sp.step rfl rfl rfl (xg_F (c := 0) (f := 3) rfl rfl rfl rfl rfl) ?_
                refine Sp.step rfl rfl rfl rfl ?_
                refine Sp.call rfl rfl rfl (xrecv (c := 4) (by decide) rfl (by decide +kernel)) s_Memory_lengthOf (fun x21 => ⟨_, _, ⟨rfl, rfl⟩, ?_⟩)
                refine Sp.id (pc := 114) (l := [some (.ref 40), some (.ref x), some (.int y), none, none, some (.int x10.1), some (.int x12.1), some (.int x14.1)]) (st := [.int x21, .int x12.1]) (h := hS x14.2 M) ?_
                refine Sp.if2 rfl rfl rfl rfl (fun e22 => ?_) (fun e22 => ?_)
                · refine Sp.step rfl rfl rfl rfl ?_
                  refine Sp.ite (fun e23 => ?_) (fun e23 => ?_)
                  · refine Sp.step rfl rfl rfl (go_sw (t := 156) (sw_of e23 rfl)) ?_
                    refine Sp.step rfl rfl rfl rfl ?_
                    refine Sp.step rfl rfl rfl rfl ?_
                    refine Sp.step rfl rfl rfl (xg_F (c := 0) (f := 3) rfl rfl rfl rfl rfl) ?_
                    refine Sp.step rfl rfl rfl rfl ?_
                    refine Sp.step rfl rfl rfl rfl ?_
                    refine Sp.call rfl rfl rfl (xrecv (c := 4) (by decide) rfl (by decide +kernel)) s_Memory_intPlace (fun x24 => ⟨_, _, ⟨rfl, rfl⟩, ?_⟩)
                    refine Sp.id (pc := 168) (l := [some (.ref 40), some (.ref x), some (.int y), none, none, some (.int x10.1), some (.int x12.1), some (.int x14.1)]) (st := [.int x24, .ref x]) (h := hS x14.2 M) ?_
                    refine Sp.guard (fun e25 => ?_)
                    refine Sp.call rfl rfl rfl (xrecv (c := 9) (by decide) e25 (by decide +kernel)) s_Strand_push (fun x26 => ⟨_, _, ⟨rfl, rfl⟩, ?_⟩)
                    refine Sp.id (pc := 171) (l := [some (.ref 40), some (.ref x), some (.int y), none, none, some (.int x10.1), some (.int x12.1), some (.int x14.1)]) (st := []) (h := hS x26 M) ?_
                    refine Sp.step rfl rfl rfl rfl ?_
                    refine Sp.step rfl rfl rfl rfl ?_
                    exact Sp.iret rfl rfl rfl rfl (fun _ _ h => h)
                  · refine Sp.ite (fun e27 => ?_) (fun e27 => ?_)
                    · refine Sp.step rfl rfl rfl (go_sw (t := 174) (sw_of e27 rfl)) ?_
                      refine Sp.step rfl rfl rfl rfl ?_
                      refine Sp.step rfl rfl rfl (xg_F (c := 0) (f := 3) rfl rfl rfl rfl rfl) ?_
                      refine Sp.step rfl rfl rfl rfl ?_
                      refine Sp.step rfl rfl rfl rfl ?_
                      refine Sp.step rfl rfl rfl rfl ?_
                      refine Sp.call rfl rfl rfl (xrecv (c := 4) (by decide) rfl (by decide +kernel)) s_Memory_setIntPlace (fun x28 => ⟨_, _, ⟨rfl, rfl⟩, ?_⟩)
                      refine Sp.id (pc := 187) (l := [some (.ref 40), some (.ref x), some (.int y), none, none, some (.int x10.1), some (.int x12.1), some (.int x14.1)]) (st := []) (h := hS x28 M) ?_
                      refine Sp.step rfl rfl rfl rfl ?_
                      refine Sp.step rfl rfl rfl rfl ?_
                      exact Sp.iret rfl rfl rfl rfl (fun _ _ h => h)
                    · refine Sp.ite (fun e29 => ?_) (fun e29 => ?_)
                      · refine Sp.step rfl rfl rfl (go_sw (t := 190) (sw_of e29 rfl)) ?_
                        refine Sp.step rfl rfl rfl rfl ?_
                        refine Sp.step rfl rfl rfl rfl ?_
                        refine Sp.step rfl rfl rfl (xg_F (c := 0) (f := 3) rfl rfl rfl rfl rfl) ?_
                        refine Sp.step rfl rfl rfl rfl ?_
                        refine Sp.step rfl rfl rfl rfl ?_
                        refine Sp.call rfl rfl rfl (xrecv (c := 4) (by decide) rfl (by decide +kernel)) s_Memory_refPlace (fun x30 => ⟨_, _, ⟨rfl, rfl⟩, ?_⟩)
                        refine Sp.id (pc := 202) (l := [some (.ref 40), some (.ref x), some (.int y), none, none, some (.int x10.1), some (.int x12.1), some (.int x14.1)]) (st := [.int x30, .ref x]) (h := hS x14.2 M) ?_
                        refine Sp.guard (fun e31 => ?_)
                        refine Sp.call rfl rfl rfl (xrecv (c := 9) (by decide) e31 (by decide +kernel)) s_Strand_pushRef (fun x32 => ⟨_, _, ⟨rfl, rfl⟩, ?_⟩)
                        refine Sp.id (pc := 205) (l := [some (.ref 40), some (.ref x), some (.int y), none, none, some (.int x10.1), some (.int x12.1), some (.int x14.1)]) (st := []) (h := hS x32 M) ?_
                        refine Sp.step rfl rfl rfl rfl ?_
                        refine Sp.step rfl rfl rfl rfl ?_
                        exact Sp.iret rfl rfl rfl rfl (fun _ _ h => h)
                      · refine Sp.step rfl rfl rfl (go_sw (t := 208) (mjSw_dflt _ (by
                          intro q hq
                          simp only [List.mem_cons, List.not_mem_nil, or_false] at hq
                          rcases hq with rfl | rfl | rfl | rfl | rfl
                          · exact fun h => absurd h (fun h => e23 h)
                          · exact fun h => absurd h (fun h => e27 h)
                          · exact fun h => rfl
                          · exact fun h => rfl
                          · exact fun h => absurd h (fun h => e29 h)))) ?_
                        refine Sp.step rfl rfl rfl rfl ?_
                        refine Sp.step rfl rfl rfl (xg_F (c := 0) (f := 3) rfl rfl rfl rfl rfl) ?_
                        refine Sp.step rfl rfl rfl rfl ?_
                        refine Sp.step rfl rfl rfl rfl ?_
                        refine Sp.step rfl rfl rfl rfl ?_
                        refine Sp.call rfl rfl rfl (xrecv (c := 4) (by decide) rfl (by decide +kernel)) s_Memory_setRefPlace (fun x33 => ⟨_, _, ⟨rfl, rfl⟩, ?_⟩)
                        refine Sp.id (pc := 221) (l := [some (.ref 40), some (.ref x), some (.int y), none, none, some (.int x10.1), some (.int x12.1), some (.int x14.1)]) (st := []) (h := hS x33 M) ?_
                        refine Sp.step rfl rfl rfl rfl ?_
                        exact Sp.iret rfl rfl rfl rfl (fun _ _ h => h)
                · refine Sp.step rfl rfl rfl rfl ?_
                  exact Sp.iret rfl rfl rfl rfl (fun _ _ h => h)
            · refine Sp.step rfl rfl rfl rfl ?_
              exact Sp.iret rfl rfl rfl rfl (fun _ _ h => h)
        · refine Sp.step rfl rfl rfl rfl ?_
          exact Sp.iret rfl rfl rfl rfl (fun _ _ h => h)
def f_Image_takenBy_51 (x : Int32) (X : XS) : Option Int32 := ((f_Image_at_51 ((f_Image_headAt_51 x X) + 4) X).bind fun x1 => some x1)
set_option maxRecDepth 100000 in
set_option maxHeartbeats 4000000 in
theorem s_Image_takenBy_51 {L : Nat} {xs : Nat → Int32} {X : XS} {M : MS} {x : Int32} : Sp (mjOO L xs) 172 0 [some (.ref 51), some (.int x)] [] (hS X M) (f_Image_takenBy_51 x X) (KQ (hS X M)) := by
  unfold f_Image_takenBy_51
  refine Sp.step rfl rfl rfl rfl ?_
  refine Sp.step rfl rfl rfl rfl ?_
  refine Sp.step rfl rfl rfl rfl ?_
  refine Sp.callS rfl rfl rfl (xrecv (c := 2) (by decide) rfl (by decide +kernel)) s_Image_headAt_51 ⟨rfl, rfl⟩ ?_
  refine Sp.id (pc := 6) (l := [some (.ref 51), some (.int x)]) (st := [.int (f_Image_headAt_51 x X), .ref 51]) (h := hS X M) ?_
  refine Sp.step rfl rfl rfl rfl ?_
  refine Sp.step rfl rfl rfl rfl ?_
  refine Sp.call rfl rfl rfl (xrecv (c := 2) (by decide) rfl (by decide +kernel)) s_Image_at_51 (fun x1 => ⟨_, _, ⟨rfl, rfl⟩, ?_⟩)
  refine Sp.id (pc := 11) (l := [some (.ref 51), some (.int x)]) (st := [.int x1]) (h := hS X M) ?_
  exact Sp.iret rfl rfl rfl rfl (fun _ _ h => h)
def f_Strand_enterTaking (x : Nat) (y : Int32) (z : Int32) (u : Int32) (X : XS) : Option (Bool × XS) := (if (xT X x = some (14, 0)) then (if 1 ≤ X.1 x 2 ∧ X.1 x 2 ≤ 19 then (if 0 ≤ u ∧ u ≤ (if 10 < X.1 x 8 then 10 else X.1 x 8) then (lt (xw X x 8 ((X.1 x 8) - u)) fun X6 => ((f_Strand_enter x y z X6).bind fun x7 => (if (xT x7 x = some (14, 0)) then (ocz (x7.2.1 x 5) none (fun a9 => (ocz (x7.2.1 x 5) none (fun a11 => (ocz (xL x7 0 a9) none (fun n13 => (ocz (xL x7 0 a11) none (fun n15 => (if cpo ((X6.1 x 7) + (X6.1 x 8)) ((X6.1 x 2) * 22) u n13 n15 then (lt (xc x7 (x7.1 a9) a11 ((X6.1 x 7) + (X6.1 x 8)).toNatClampNeg ((X6.1 x 2) * 22).toNatClampNeg u.toNatClampNeg) fun X18 => (ocz (X18.2.1 x 6) none (fun a19 => (ocz (X18.2.1 x 6) none (fun a21 => (ocz (xL X18 0 a19) none (fun n23 => (ocz (xL X18 0 a21) none (fun n25 => (if cpo ((X6.1 x 7) + (X6.1 x 8)) ((X6.1 x 2) * 22) u n23 n25 then (lt (xc X18 (X18.1 a19) a21 ((X6.1 x 7) + (X6.1 x 8)).toNatClampNeg ((X6.1 x 2) * 22).toNatClampNeg u.toNatClampNeg) fun X28 => (ocz (X28.2.1 x 6) none (fun a29 => ((f_Arrays_fill4 a29 ((X6.1 x 7) + (X6.1 x 8)) (((X6.1 x 7) + (X6.1 x 8)) + u) 0 X28).bind fun x31 => some (true, x31))))) else none)))))))))) else none))))))))) else none))) else some (false, X)) else some (false, X)) else none)
set_option maxRecDepth 100000 in
set_option maxHeartbeats 4000000 in
theorem s_Strand_enterTaking {L : Nat} {xs : Nat → Int32} {X : XS} {M : MS} {x : Nat} {y : Int32} {z : Int32} {u : Int32} : Sp (mjOO L xs) 285 0 [some (.ref x), some (.int y), some (.int z), some (.int u), none, none] [] (hS X M) (f_Strand_enterTaking x y z u X) (KBX M) := by
  unfold f_Strand_enterTaking
  refine Sp.step rfl rfl rfl rfl ?_
  refine Sp.guard (fun e1 => ?_)
  refine Sp.step rfl rfl rfl (xg_I (c := 9) (f := 2) rfl rfl e1 rfl) ?_
  refine Sp.step rfl rfl rfl rfl ?_
  refine Sp.step rfl rfl rfl rfl ?_
  refine Sp.callP rfl rfl rfl rfl s_within (fun e2 => ?_) (fun e2 => ?_)
  · refine Sp.id (pc := 10) (l := [some (.ref x), some (.int y), some (.int z), some (.int u), none, none]) (st := [.int 1]) (h := hS X M) ?_
    refine Sp.step rfl rfl rfl rfl ?_
    refine Sp.step rfl rfl rfl rfl ?_
    refine Sp.step rfl rfl rfl rfl ?_
    refine Sp.step rfl rfl rfl rfl ?_
    refine Sp.step rfl rfl rfl (xg_I (c := 9) (f := 8) rfl rfl e1 rfl) ?_
    refine Sp.step rfl rfl rfl rfl ?_
    refine Sp.nat rfl rfl rfl rfl ⟨by decide, by decide, rfl⟩ ?_
    refine Sp.callP rfl rfl rfl rfl s_within (fun e4 => ?_) (fun e4 => ?_)
    · refine Sp.id (pc := 27) (l := [some (.ref x), some (.int y), some (.int z), some (.int u), none, none]) (st := [.int 1]) (h := hS X M) ?_
      refine Sp.step rfl rfl rfl rfl ?_
      refine Sp.step rfl rfl rfl rfl ?_
      refine Sp.step rfl rfl rfl rfl ?_
      refine Sp.step rfl rfl rfl (xg_I (c := 9) (f := 8) rfl rfl e1 rfl) ?_
      refine Sp.step rfl rfl rfl rfl ?_
      refine Sp.step rfl rfl rfl rfl ?_
      refine Sp.step rfl rfl rfl (xp_I (c := 9) (f := 8) rfl rfl e1 rfl rfl) ?_
      refine Sp.step rfl rfl rfl rfl ?_
      refine Sp.step rfl rfl rfl (xg_I (c := 9) (f := 7) rfl rfl e1 rfl) ?_
      refine Sp.step rfl rfl rfl rfl ?_
      refine Sp.step rfl rfl rfl (xg_I (c := 9) (f := 8) rfl rfl e1 rfl) ?_
      refine Sp.step rfl rfl rfl rfl ?_
      refine Sp.step rfl rfl rfl rfl ?_
      refine Sp.step rfl rfl rfl rfl ?_
      refine Sp.step rfl rfl rfl (xg_I (c := 9) (f := 2) rfl rfl e1 rfl) ?_
      refine Sp.step rfl rfl rfl rfl ?_
      refine Sp.step rfl rfl rfl rfl ?_
      refine Sp.step rfl rfl rfl rfl ?_
      refine Sp.step rfl rfl rfl rfl ?_
      refine Sp.step rfl rfl rfl rfl ?_
      refine Sp.step rfl rfl rfl rfl ?_
      refine Sp.call rfl rfl rfl (xrecv (c := 9) (by decide) e1 (by decide +kernel)) s_Strand_enter (fun x7 => ⟨_, _, ⟨rfl, rfl⟩, ?_⟩)
      refine Sp.id (pc := 68) (l := [some (.ref x), some (.int y), some (.int z), some (.int u), some (.int (((xw X x 8 ((X.1 x 8) - u)).1 x 7) + ((xw X x 8 ((X.1 x 8) - u)).1 x 8))), some (.int (((xw X x 8 ((X.1 x 8) - u)).1 x 2) * 22))]) (st := []) (h := hS x7 M) ?_
      refine Sp.step rfl rfl rfl rfl ?_
      refine Sp.guard (fun e8 => ?_)
      refine Sp.step rfl rfl rfl (xg_D (c := 9) (f := 5) rfl rfl e8 rfl (fxP_big (dyn_of (c := 9) e8 rfl))) ?_
      refine Sp.ocrn (fun a9 e10 => ?_)
      refine Sp.step rfl rfl rfl rfl ?_
      refine Sp.step rfl rfl rfl rfl ?_
      refine Sp.step rfl rfl rfl (xg_D (c := 9) (f := 5) rfl rfl e8 rfl (fxP_big (dyn_of (c := 9) e8 rfl))) ?_
      refine Sp.ocrn (fun a11 e12 => ?_)
      refine Sp.step rfl rfl rfl rfl ?_
      refine Sp.step rfl rfl rfl rfl ?_
      refine Sp.ocn (fun n13 e14 => ?_)
      refine Sp.ocn (fun n15 e16 => ?_)
      refine Sp.guard (fun e17 => ?_)
      refine Sp.nat rfl rfl rfl (xcopy (xL_ok e14) (xL_ok e16) (Or.inl rfl) e17) ⟨by decide, by decide, rfl⟩ ?_
      refine Sp.step rfl rfl rfl rfl ?_
      refine Sp.step rfl rfl rfl (xg_D (c := 9) (f := 6) rfl rfl e8 rfl (fxP_big (dyn_of (c := 9) e8 rfl))) ?_
      refine Sp.ocrn (fun a19 e20 => ?_)
      refine Sp.step rfl rfl rfl rfl ?_
      refine Sp.step rfl rfl rfl rfl ?_
      refine Sp.step rfl rfl rfl (xg_D (c := 9) (f := 6) rfl rfl e8 rfl (fxP_big (dyn_of (c := 9) e8 rfl))) ?_
      refine Sp.ocrn (fun a21 e22 => ?_)
      refine Sp.step rfl rfl rfl rfl ?_
      refine Sp.step rfl rfl rfl rfl ?_
      refine Sp.ocn (fun n23 e24 => ?_)
      refine Sp.ocn (fun n25 e26 => ?_)
      refine Sp.guard (fun e27 => ?_)
      refine Sp.nat rfl rfl rfl (xcopy (xL_ok e24) (xL_ok e26) (Or.inl rfl) e27) ⟨by decide, by decide, rfl⟩ ?_
      refine Sp.step rfl rfl rfl rfl ?_
      refine Sp.step rfl rfl rfl (xg_D (c := 9) (f := 6) rfl rfl e8 rfl (fxP_big (dyn_of (c := 9) e8 rfl))) ?_
      refine Sp.ocrn (fun a29 e30 => ?_)
      refine Sp.step rfl rfl rfl rfl ?_
      refine Sp.step rfl rfl rfl rfl ?_
      refine Sp.step rfl rfl rfl rfl ?_
      refine Sp.step rfl rfl rfl rfl ?_
      refine Sp.step rfl rfl rfl rfl ?_
      refine Sp.call rfl rfl rfl rfl s_Arrays_fill4 (fun x31 => ⟨_, _, ⟨rfl, rfl⟩, ?_⟩)
      refine Sp.id (pc := 114) (l := [some (.ref x), some (.int y), some (.int z), some (.int u), some (.int (((xw X x 8 ((X.1 x 8) - u)).1 x 7) + ((xw X x 8 ((X.1 x 8) - u)).1 x 8))), some (.int (((xw X x 8 ((X.1 x 8) - u)).1 x 2) * 22))]) (st := []) (h := hS x31 M) ?_
      refine Sp.step rfl rfl rfl rfl ?_
      exact Sp.iret rfl rfl rfl rfl (fun _ _ h => h)
    · refine Sp.id (pc := 27) (l := [some (.ref x), some (.int y), some (.int z), some (.int u), none, none]) (st := [.int 0]) (h := hS X M) ?_
      refine Sp.step rfl rfl rfl rfl ?_
      refine Sp.step rfl rfl rfl rfl ?_
      exact Sp.iret rfl rfl rfl rfl (fun _ _ h => h)
  · refine Sp.id (pc := 10) (l := [some (.ref x), some (.int y), some (.int z), some (.int u), none, none]) (st := [.int 0]) (h := hS X M) ?_
    refine Sp.step rfl rfl rfl rfl ?_
    refine Sp.step rfl rfl rfl rfl ?_
    exact Sp.iret rfl rfl rfl rfl (fun _ _ h => h)
def f_Engine_callStatic (x : Nat) (y : Int32) (X : XS) : Option (Int32 × XS) := ((f_Image_codeAt_51 y X).bind fun x1 => ((f_Image_takenBy_51 y X).bind fun x2 => (if (xT X x = some (14, 0)) then ((f_Strand_enterTaking x y x1 x2 X).bind fun x4 => (if x4.1 = true then some ((-1), x4.2) else some (9, x4.2))) else none)))
set_option maxRecDepth 100000 in
set_option maxHeartbeats 4000000 in
theorem s_Engine_callStatic {L : Nat} {xs : Nat → Int32} {X : XS} {M : MS} {x : Nat} {y : Int32} : Sp (mjOO L xs) 122 0 [some (.ref 40), some (.ref x), some (.int y)] [] (hS X M) (f_Engine_callStatic x y X) (KEX M) := by
  unfold f_Engine_callStatic
  refine Sp.step rfl rfl rfl rfl ?_
  refine Sp.step rfl rfl rfl rfl ?_
  refine Sp.step rfl rfl rfl rfl ?_
  refine Sp.step rfl rfl rfl (xg_F (c := 0) (f := 6) rfl rfl rfl rfl rfl) ?_
  refine Sp.step rfl rfl rfl rfl ?_
  refine Sp.call rfl rfl rfl (xrecv (c := 2) (by decide) rfl (by decide +kernel)) s_Image_codeAt_51 (fun x1 => ⟨_, _, ⟨rfl, rfl⟩, ?_⟩)
  refine Sp.id (pc := 10) (l := [some (.ref 40), some (.ref x), some (.int y)]) (st := [.int x1, .int y, .ref x]) (h := hS X M) ?_
  refine Sp.step rfl rfl rfl rfl ?_
  refine Sp.step rfl rfl rfl (xg_F (c := 0) (f := 6) rfl rfl rfl rfl rfl) ?_
  refine Sp.step rfl rfl rfl rfl ?_
  refine Sp.call rfl rfl rfl (xrecv (c := 2) (by decide) rfl (by decide +kernel)) s_Image_takenBy_51 (fun x2 => ⟨_, _, ⟨rfl, rfl⟩, ?_⟩)
  refine Sp.id (pc := 18) (l := [some (.ref 40), some (.ref x), some (.int y)]) (st := [.int x2, .int x1, .int y, .ref x]) (h := hS X M) ?_
  refine Sp.guard (fun e3 => ?_)
  refine Sp.call rfl rfl rfl (xrecv (c := 9) (by decide) e3 (by decide +kernel)) s_Strand_enterTaking (fun x4 => ⟨_, _, ⟨rfl, rfl⟩, ?_⟩)
  refine Sp.bool (fun e5 => ?_) (fun e5 => ?_)
  · refine Sp.id (pc := 21) (l := [some (.ref 40), some (.ref x), some (.int y)]) (st := [.int 1]) (h := hS x4.2 M) ?_
    refine Sp.step rfl rfl rfl rfl ?_
    refine Sp.step rfl rfl rfl rfl ?_
    refine Sp.step rfl rfl rfl rfl ?_
    exact Sp.iret rfl rfl rfl rfl (fun _ _ h => h)
  · refine Sp.id (pc := 21) (l := [some (.ref 40), some (.ref x), some (.int y)]) (st := [.int 0]) (h := hS x4.2 M) ?_
    refine Sp.step rfl rfl rfl rfl ?_
    refine Sp.step rfl rfl rfl rfl ?_
    exact Sp.iret rfl rfl rfl rfl (fun _ _ h => h)
def f_Image_takenByName_51 (x : Int32) (X : XS) : Int32 := (if 0 ≤ x ∧ x ≤ 7 then X.1 54 x.toNatClampNeg else 1)
set_option maxRecDepth 100000 in
set_option maxHeartbeats 4000000 in
theorem s_Image_takenByName_51 {L : Nat} {xs : Nat → Int32} {X : XS} {M : MS} {x : Int32} : Sp (mjOO L xs) 173 0 [some (.ref 51), some (.int x)] [] (hS X M) (some (f_Image_takenByName_51 x X)) (KQ (hS X M)) := by
  unfold f_Image_takenByName_51
  refine Sp.step rfl rfl rfl rfl ?_
  refine Sp.step rfl rfl rfl rfl ?_
  refine Sp.step rfl rfl rfl rfl ?_
  refine Sp.callPV rfl rfl rfl rfl s_within (fun e1 => ?_) (fun e1 => ?_)
  · refine Sp.id (pc := 7) (l := [some (.ref 51), some (.int x)]) (st := [.int 1]) (h := hS X M) ?_
    refine Sp.step rfl rfl rfl rfl ?_
    refine Sp.step rfl rfl rfl rfl ?_
    refine Sp.step rfl rfl rfl (xg_F (c := 2) (f := 4) rfl rfl rfl rfl rfl) ?_
    refine Sp.step rfl rfl rfl rfl ?_
    refine Sp.step rfl rfl rfl (xld rfl (by decide) (ix_le (N := 7) rfl e1.1 e1.2)) ?_
    refine Sp.step rfl rfl rfl rfl ?_
    exact Sp.iret rfl rfl rfl rfl (fun _ _ h => h)
  · refine Sp.id (pc := 7) (l := [some (.ref 51), some (.int x)]) (st := [.int 0]) (h := hS X M) ?_
    refine Sp.step rfl rfl rfl rfl ?_
    refine Sp.step rfl rfl rfl rfl ?_
    exact Sp.iret rfl rfl rfl rfl (fun _ _ h => h)
