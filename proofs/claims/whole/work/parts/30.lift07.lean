/-! methods as functions, by program -/
def b3_Memory_rowLeadsWell (x : Nat) (y : Nat) (z : Int32) (X : XS) (x1 : Int32) : Option (Int32 ⊕ Bool) := (if z ≤ x1 then some (.inr true) else (ocz (xL X 0 x) none (fun n3 => (if Int32.ofNat n3 ≤ x1 then some (.inr true) else (ocz (xL X 0 y) none (fun n6 => (if Int32.ofNat n6 ≤ x1 then some (.inr true) else (if ixo x1 n6 then (if X.1 y x1.toNatClampNeg = 0 then some (.inl (x1 + 1)) else (if ixo x1 n3 then ((f_Memory_leadsWell (X.1 x x1.toNatClampNeg) X).bind fun x12 => (if x12 = true then some (.inl (x1 + 1)) else some (.inr false))) else none)) else none))))))))
def f_Memory_rowLeadsWell (x : Nat) (y : Nat) (z : Int32) (X : XS) : Option Bool := (lp (b3_Memory_rowLeadsWell x y z X) 10000 (0 : Int32))
set_option maxRecDepth 100000 in
set_option maxHeartbeats 4000000 in
theorem s_Memory_rowLeadsWell {L : Nat} {xs : Nat → Int32} {X : XS} {M : MS} {x : Nat} {y : Nat} {z : Int32} : Sp (mjOO L xs) 231 0 [some (.ref 41), some (.ref x), some (.ref y), some (.int z), none] [] (hS X M) (f_Memory_rowLeadsWell x y z X) (KB (hS X M)) := by
  unfold f_Memory_rowLeadsWell
  refine Sp.step rfl rfl rfl rfl ?_
  refine Sp.step rfl rfl rfl rfl ?_
  refine Sp.weak (l0 := [some (.ref 41), some (.ref x), some (.ref y), some (.int z), some (.int 0)]) ⟨rfl, rfl, rfl, rfl, rfl, trivial⟩ ?_
  refine Sp.loopL (mf := (fun (x1 : Int32) => [some (.ref 41), some (.ref x), some (.ref y), some (.int z), some (.int x1)])) (hf := (fun (x1 : Int32) => hS X M)) (fun x1 => ?_) _ _
  unfold b3_Memory_rowLeadsWell
  refine Sp.step rfl rfl rfl rfl ?_
  refine Sp.step rfl rfl rfl rfl ?_
  refine Sp.if2 rfl rfl rfl rfl (fun e2 => ?_) (fun e2 => ?_)
  · refine Sp.step rfl rfl rfl rfl ?_
    exact Sp.iret rfl rfl rfl rfl (fun _ _ h => h)
  · refine Sp.step rfl rfl rfl rfl ?_
    refine Sp.step rfl rfl rfl rfl ?_
    refine Sp.ocn (fun n3 e4 => ?_)
    refine Sp.step rfl rfl rfl (xlen (xL_ok e4) (by decide)) ?_
    refine Sp.if2 rfl rfl rfl rfl (fun e5 => ?_) (fun e5 => ?_)
    · refine Sp.step rfl rfl rfl rfl ?_
      exact Sp.iret rfl rfl rfl rfl (fun _ _ h => h)
    · refine Sp.step rfl rfl rfl rfl ?_
      refine Sp.step rfl rfl rfl rfl ?_
      refine Sp.ocn (fun n6 e7 => ?_)
      refine Sp.step rfl rfl rfl (xlen (xL_ok e7) (by decide)) ?_
      refine Sp.if2 rfl rfl rfl rfl (fun e8 => ?_) (fun e8 => ?_)
      · refine Sp.step rfl rfl rfl rfl ?_
        exact Sp.iret rfl rfl rfl rfl (fun _ _ h => h)
      · refine Sp.step rfl rfl rfl rfl ?_
        refine Sp.step rfl rfl rfl rfl ?_
        refine Sp.guard (fun e9 => ?_)
        refine Sp.step rfl rfl rfl (xld (xL_ok e7) (by decide) e9) ?_
        refine Sp.if1 rfl rfl rfl rfl (fun e10 => ?_) (fun e10 => ?_)
        · refine Sp.step rfl rfl rfl rfl ?_
          refine Sp.step rfl rfl rfl rfl ?_
          exact Sp.jmp (l0 := [some (.ref 41), some (.ref x), some (.ref y), some (.int z), some (.int (x1 + 1))]) ⟨rfl, rfl, rfl, rfl, rfl, trivial⟩ (fun _ _ h => h)
        · refine Sp.step rfl rfl rfl rfl ?_
          refine Sp.step rfl rfl rfl rfl ?_
          refine Sp.step rfl rfl rfl rfl ?_
          refine Sp.guard (fun e11 => ?_)
          refine Sp.step rfl rfl rfl (xld (xL_ok e4) (by decide) e11) ?_
          refine Sp.call rfl rfl rfl (xrecv (c := 4) (by decide) rfl (by decide +kernel)) s_Memory_leadsWell (fun x12 => ⟨_, _, ⟨rfl, rfl⟩, ?_⟩)
          refine Sp.bool (fun e13 => ?_) (fun e13 => ?_)
          · refine Sp.step rfl rfl rfl rfl ?_
            refine Sp.step rfl rfl rfl rfl ?_
            refine Sp.step rfl rfl rfl rfl ?_
            exact Sp.jmp (l0 := [some (.ref 41), some (.ref x), some (.ref y), some (.int z), some (.int (x1 + 1))]) ⟨rfl, rfl, rfl, rfl, rfl, trivial⟩ (fun _ _ h => h)
          · refine Sp.step rfl rfl rfl rfl ?_
            refine Sp.step rfl rfl rfl rfl ?_
            exact Sp.iret rfl rfl rfl rfl (fun _ _ h => h)
def b43_Engine_isSound (x2 : (Bool × XS)) (x8 : Int32) : Option (Int32 ⊕ (Bool × XS)) := (if 6 ≤ x8 then ((f_Memory_fieldsLeadWell x2.2).bind fun x10 => (if x10 = true then some (.inr (true, x2.2)) else some (.inr (false, x2.2)))) else (if f_Engine_isStrand x8 x2.2 = true then (ocz (x2.2.2.1 50 x8.toNatClampNeg) none (fun a14 => (if (xT x2.2 a14 = some (14, 0)) then (ocz (x2.2.2.1 a14 5) none (fun a17 => (ocz (x2.2.2.1 50 x8.toNatClampNeg) none (fun a19 => (if (xT x2.2 a19 = some (14, 0)) then (ocz (x2.2.2.1 a19 6) none (fun a22 => (ocz (x2.2.2.1 50 x8.toNatClampNeg) none (fun a24 => (if (xT x2.2 a24 = some (14, 0)) then ((f_Strand_slots a24 x2.2).bind fun x27 => ((f_Memory_rowLeadsWell a17 a22 x27 x2.2).bind fun x28 => (if x28 = true then some (.inl (x8 + 1)) else some (.inr (false, x2.2))))) else none))))) else none))))) else none))) else ((f_Memory_fieldsLeadWell x2.2).bind fun x33 => (if x33 = true then some (.inr (true, x2.2)) else some (.inr (false, x2.2))))))
def f_Engine_isSound (X : XS) : Option (Bool × XS) := (if ¬ X.1 40 0 = 0 then ((f_Memory_findBeginnings X).bind fun x2 => (if x2.1 = true then ((f_Memory_rowLeadsWell_57_58 8 x2.2).bind fun x5 => (if x5 = true then (lp (b43_Engine_isSound x2) 10000 (0 : Int32)) else some (false, x2.2))) else some (false, x2.2))) else some (true, X))
set_option maxRecDepth 100000 in
set_option maxHeartbeats 4000000 in
theorem s_Engine_isSound {L : Nat} {xs : Nat → Int32} {X : XS} {M : MS} : Sp (mjOO L xs) 134 0 [some (.ref 40), none] [] (hS X M) (f_Engine_isSound X) (KBX M) := by
  unfold f_Engine_isSound
  refine Sp.step rfl rfl rfl rfl ?_
  refine Sp.step rfl rfl rfl (xg_I (c := 0) (f := 0) rfl rfl rfl rfl) ?_
  refine Sp.if1 rfl rfl rfl rfl (fun e1 => ?_) (fun e1 => ?_)
  · refine Sp.step rfl rfl rfl rfl ?_
    refine Sp.step rfl rfl rfl (xg_F (c := 0) (f := 3) rfl rfl rfl rfl rfl) ?_
    refine Sp.call rfl rfl rfl (xrecv (c := 4) (by decide) rfl (by decide +kernel)) s_Memory_findBeginnings (fun x2 => ⟨_, _, ⟨rfl, rfl⟩, ?_⟩)
    refine Sp.bool (fun e3 => ?_) (fun e3 => ?_)
    · refine Sp.step rfl rfl rfl rfl ?_
      refine Sp.step rfl rfl rfl rfl ?_
      refine Sp.step rfl rfl rfl (xg_F (c := 0) (f := 3) rfl rfl rfl rfl rfl) ?_
      refine Sp.step rfl rfl rfl rfl ?_
      refine Sp.step rfl rfl rfl (xg_F (c := 0) (f := 8) rfl rfl rfl rfl rfl) ?_
      refine Sp.step rfl rfl rfl rfl ?_
      refine Sp.step rfl rfl rfl (xg_F (c := 0) (f := 9) rfl rfl rfl rfl rfl) ?_
      refine Sp.step rfl rfl rfl rfl ?_
      refine Sp.call rfl rfl rfl (xrecv (c := 4) (by decide) rfl (by decide +kernel)) s_Memory_rowLeadsWell_57_58 (fun x5 => ⟨_, _, ⟨rfl, rfl⟩, ?_⟩)
      refine Sp.bool (fun e6 => ?_) (fun e6 => ?_)
      · refine Sp.step rfl rfl rfl rfl ?_
        refine Sp.step rfl rfl rfl rfl ?_
        refine Sp.step rfl rfl rfl rfl ?_
        refine Sp.weak (l0 := [some (.ref 40), some (.int 0)]) ⟨rfl, rfl, trivial⟩ ?_
        refine Sp.loopL (mf := (fun (x8 : Int32) => [some (.ref 40), some (.int x8)])) (hf := (fun (x8 : Int32) => hS x2.2 M)) (fun x8 => ?_) _ _
        unfold b43_Engine_isSound
        refine Sp.step rfl rfl rfl rfl ?_
        refine Sp.step rfl rfl rfl rfl ?_
        refine Sp.if2 rfl rfl rfl rfl (fun e9 => ?_) (fun e9 => ?_)
        · refine Sp.step rfl rfl rfl rfl ?_
          refine Sp.step rfl rfl rfl (xg_F (c := 0) (f := 3) rfl rfl rfl rfl rfl) ?_
          refine Sp.call rfl rfl rfl (xrecv (c := 4) (by decide) rfl (by decide +kernel)) s_Memory_fieldsLeadWell (fun x10 => ⟨_, _, ⟨rfl, rfl⟩, ?_⟩)
          refine Sp.bool (fun e11 => ?_) (fun e11 => ?_)
          · exact Sp.iret rfl rfl rfl rfl (fun _ _ h => h)
          · exact Sp.iret rfl rfl rfl rfl (fun _ _ h => h)
        · refine Sp.step rfl rfl rfl rfl ?_
          refine Sp.step rfl rfl rfl rfl ?_
          refine Sp.callS rfl rfl rfl (xrecv (c := 0) (by decide) rfl (by decide +kernel)) s_Engine_isStrand ⟨rfl, rfl⟩ ?_
          refine Sp.bool (fun e12 => ?_) (fun e12 => ?_)
          · refine Sp.step rfl rfl rfl rfl ?_
            refine Sp.step rfl rfl rfl rfl ?_
            refine Sp.step rfl rfl rfl (xg_F (c := 0) (f := 3) rfl rfl rfl rfl rfl) ?_
            refine Sp.step rfl rfl rfl rfl ?_
            refine Sp.step rfl rfl rfl (xg_F (c := 0) (f := 5) rfl rfl rfl rfl rfl) ?_
            refine Sp.step rfl rfl rfl rfl ?_
            refine Sp.step rfl rfl rfl (xald (t := 4) rfl (by decide) (fun _ => rfl) (isStrand_ix e12)) ?_
            refine Sp.ocrn (fun a14 e15 => ?_)
            refine Sp.guard (fun e16 => ?_)
            refine Sp.step rfl rfl rfl (xg_D (c := 9) (f := 5) rfl rfl e16 rfl (fxP_big (dyn_of (c := 9) e16 rfl))) ?_
            refine Sp.ocrn (fun a17 e18 => ?_)
            refine Sp.step rfl rfl rfl rfl ?_
            refine Sp.step rfl rfl rfl (xg_F (c := 0) (f := 5) rfl rfl rfl rfl rfl) ?_
            refine Sp.step rfl rfl rfl rfl ?_
            refine Sp.step rfl rfl rfl (xald (t := 4) rfl (by decide) (fun _ => rfl) (isStrand_ix e12)) ?_
            refine Sp.ocrn (fun a19 e20 => ?_)
            refine Sp.guard (fun e21 => ?_)
            refine Sp.step rfl rfl rfl (xg_D (c := 9) (f := 6) rfl rfl e21 rfl (fxP_big (dyn_of (c := 9) e21 rfl))) ?_
            refine Sp.ocrn (fun a22 e23 => ?_)
            refine Sp.step rfl rfl rfl rfl ?_
            refine Sp.step rfl rfl rfl (xg_F (c := 0) (f := 5) rfl rfl rfl rfl rfl) ?_
            refine Sp.step rfl rfl rfl rfl ?_
            refine Sp.step rfl rfl rfl (xald (t := 4) rfl (by decide) (fun _ => rfl) (isStrand_ix e12)) ?_
            refine Sp.ocrn (fun a24 e25 => ?_)
            refine Sp.guard (fun e26 => ?_)
            refine Sp.call rfl rfl rfl (xrecv (c := 9) (by decide) e26 (by decide +kernel)) s_Strand_slots (fun x27 => ⟨_, _, ⟨rfl, rfl⟩, ?_⟩)
            refine Sp.call rfl rfl rfl (xrecv (c := 4) (by decide) rfl (by decide +kernel)) s_Memory_rowLeadsWell (fun x28 => ⟨_, _, ⟨rfl, rfl⟩, ?_⟩)
            refine Sp.bool (fun e29 => ?_) (fun e29 => ?_)
            · refine Sp.step rfl rfl rfl rfl ?_
              refine Sp.step rfl rfl rfl rfl ?_
              refine Sp.step rfl rfl rfl rfl ?_
              exact Sp.jmp (l0 := [some (.ref 40), some (.int (x8 + 1))]) ⟨rfl, rfl, trivial⟩ (fun _ _ h => h)
            · refine Sp.step rfl rfl rfl rfl ?_
              refine Sp.step rfl rfl rfl rfl ?_
              exact Sp.iret rfl rfl rfl rfl (fun _ _ h => h)
          · refine Sp.step rfl rfl rfl rfl ?_
            refine Sp.step rfl rfl rfl rfl ?_
            refine Sp.step rfl rfl rfl (xg_F (c := 0) (f := 3) rfl rfl rfl rfl rfl) ?_
            refine Sp.call rfl rfl rfl (xrecv (c := 4) (by decide) rfl (by decide +kernel)) s_Memory_fieldsLeadWell (fun x33 => ⟨_, _, ⟨rfl, rfl⟩, ?_⟩)
            refine Sp.bool (fun e34 => ?_) (fun e34 => ?_)
            · exact Sp.iret rfl rfl rfl rfl (fun _ _ h => h)
            · exact Sp.iret rfl rfl rfl rfl (fun _ _ h => h)
      · refine Sp.step rfl rfl rfl rfl ?_
        refine Sp.step rfl rfl rfl rfl ?_
        exact Sp.iret rfl rfl rfl rfl (fun _ _ h => h)
    · refine Sp.step rfl rfl rfl rfl ?_
      refine Sp.step rfl rfl rfl rfl ?_
      exact Sp.iret rfl rfl rfl rfl (fun _ _ h => h)
  · refine Sp.step rfl rfl rfl rfl ?_
    exact Sp.iret rfl rfl rfl rfl (fun _ _ h => h)
def f_P_sound (X : XS) : Option (Bool × XS) := ((f_Engine_isSound X).bind fun x1 => (if x1.1 = true then some (true, x1.2) else some (false, x1.2)))
set_option maxRecDepth 100000 in
set_option maxHeartbeats 4000000 in
theorem s_P_sound {L : Nat} {xs : Nat → Int32} {X : XS} {M : MS} : Sp (mjOO L xs) 14 0 [some (.ref 0)] [] (hS X M) (f_P_sound X) (KBX M) := by
  unfold f_P_sound
  refine Sp.step rfl rfl rfl rfl ?_
  refine Sp.step rfl rfl rfl (xg_F (c := 11) (f := 4) rfl rfl rfl rfl rfl) ?_
  refine Sp.call rfl rfl rfl (xrecv (c := 0) (by decide) rfl (by decide +kernel)) s_Engine_isSound (fun x1 => ⟨_, _, ⟨rfl, rfl⟩, ?_⟩)
  refine Sp.bool (fun e2 => ?_) (fun e2 => ?_)
  · exact Sp.iret rfl rfl rfl rfl (fun _ _ h => h)
  · exact Sp.iret rfl rfl rfl rfl (fun _ _ h => h)
def f_P_told (x : Int32) (X : XS) : Int32 := (if x = 0 then X.1 1 1 else (if x = 1 then X.1 1 2 else (if x = 2 then X.1 30 0 else (if x = 3 then X.1 59 0 else (if x = 4 then X.1 40 2 else (if x = 5 then f_Memory_used X else (if x = 6 then X.1 41 0 else (if x = 7 then X.1 47 1 else (if x = 8 then X.1 47 0 else (if x = 9 then X.1 35 0 else (-1)))))))))))
set_option maxRecDepth 100000 in
set_option maxHeartbeats 4000000 in
theorem s_P_told {L : Nat} {xs : Nat → Int32} {X : XS} {M : MS} {x : Int32} : Sp (mjOO L xs) 15 0 [some (.ref 0), some (.int x)] [] (hS X M) (some (f_P_told x X)) (KQ (hS X M)) := by
  unfold f_P_told
  refine Sp.step rfl rfl rfl rfl ?_
  refine Sp.iteV (fun e1 => ?_) (fun e1 => ?_)
  · refine Sp.step rfl rfl rfl (go_sw (t := 56) (sw_of e1 rfl)) ?_
    refine Sp.step rfl rfl rfl rfl ?_
    refine Sp.step rfl rfl rfl (xg_F (c := 11) (f := 0) rfl rfl rfl rfl rfl) ?_
    refine Sp.step rfl rfl rfl (xg_I (c := 8) (f := 1) rfl rfl rfl rfl) ?_
    exact Sp.iret rfl rfl rfl rfl (fun _ _ h => h)
  · refine Sp.iteV (fun e2 => ?_) (fun e2 => ?_)
    · refine Sp.step rfl rfl rfl (go_sw (t := 64) (sw_of e2 rfl)) ?_
      refine Sp.step rfl rfl rfl rfl ?_
      refine Sp.step rfl rfl rfl (xg_F (c := 11) (f := 0) rfl rfl rfl rfl rfl) ?_
      refine Sp.step rfl rfl rfl (xg_I (c := 8) (f := 2) rfl rfl rfl rfl) ?_
      exact Sp.iret rfl rfl rfl rfl (fun _ _ h => h)
    · refine Sp.iteV (fun e3 => ?_) (fun e3 => ?_)
      · refine Sp.step rfl rfl rfl (go_sw (t := 72) (sw_of e3 rfl)) ?_
        refine Sp.step rfl rfl rfl rfl ?_
        refine Sp.step rfl rfl rfl (xg_F (c := 11) (f := 2) rfl rfl rfl rfl rfl) ?_
        refine Sp.step rfl rfl rfl (xg_I (c := 2) (f := 0) rfl rfl rfl rfl) ?_
        exact Sp.iret rfl rfl rfl rfl (fun _ _ h => h)
      · refine Sp.iteV (fun e4 => ?_) (fun e4 => ?_)
        · refine Sp.step rfl rfl rfl (go_sw (t := 80) (sw_of e4 rfl)) ?_
          refine Sp.step rfl rfl rfl rfl ?_
          refine Sp.step rfl rfl rfl (xg_F (c := 11) (f := 5) rfl rfl rfl rfl rfl) ?_
          refine Sp.step rfl rfl rfl (xg_I (c := 10) (f := 0) rfl rfl rfl rfl) ?_
          exact Sp.iret rfl rfl rfl rfl (fun _ _ h => h)
        · refine Sp.iteV (fun e5 => ?_) (fun e5 => ?_)
          · refine Sp.step rfl rfl rfl (go_sw (t := 88) (sw_of e5 rfl)) ?_
            refine Sp.step rfl rfl rfl rfl ?_
            refine Sp.step rfl rfl rfl (xg_F (c := 11) (f := 4) rfl rfl rfl rfl rfl) ?_
            refine Sp.step rfl rfl rfl (xg_I (c := 0) (f := 2) rfl rfl rfl rfl) ?_
            exact Sp.iret rfl rfl rfl rfl (fun _ _ h => h)
          · refine Sp.iteV (fun e6 => ?_) (fun e6 => ?_)
            · refine Sp.step rfl rfl rfl (go_sw (t := 96) (sw_of e6 rfl)) ?_
              refine Sp.step rfl rfl rfl rfl ?_
              refine Sp.step rfl rfl rfl (xg_F (c := 11) (f := 4) rfl rfl rfl rfl rfl) ?_
              refine Sp.step rfl rfl rfl (xg_F (c := 0) (f := 3) rfl rfl rfl rfl rfl) ?_
              refine Sp.callS rfl rfl rfl (xrecv (c := 4) (by decide) rfl (by decide +kernel)) s_Memory_used ⟨rfl, rfl⟩ ?_
              exact Sp.iret rfl rfl rfl rfl (fun _ _ h => h)
            · refine Sp.iteV (fun e7 => ?_) (fun e7 => ?_)
              · refine Sp.step rfl rfl rfl (go_sw (t := 107) (sw_of e7 rfl)) ?_
                refine Sp.step rfl rfl rfl rfl ?_
                refine Sp.step rfl rfl rfl (xg_F (c := 11) (f := 4) rfl rfl rfl rfl rfl) ?_
                refine Sp.step rfl rfl rfl (xg_F (c := 0) (f := 3) rfl rfl rfl rfl rfl) ?_
                refine Sp.step rfl rfl rfl (xg_I (c := 4) (f := 0) rfl rfl rfl rfl) ?_
                exact Sp.iret rfl rfl rfl rfl (fun _ _ h => h)
              · refine Sp.iteV (fun e8 => ?_) (fun e8 => ?_)
                · refine Sp.step rfl rfl rfl (go_sw (t := 118) (sw_of e8 rfl)) ?_
                  refine Sp.step rfl rfl rfl rfl ?_
                  refine Sp.step rfl rfl rfl (xg_F (c := 11) (f := 4) rfl rfl rfl rfl rfl) ?_
                  refine Sp.step rfl rfl rfl (xg_F (c := 0) (f := 4) rfl rfl rfl rfl rfl) ?_
                  refine Sp.step rfl rfl rfl (xg_I (c := 5) (f := 1) rfl rfl rfl rfl) ?_
                  exact Sp.iret rfl rfl rfl rfl (fun _ _ h => h)
                · refine Sp.iteV (fun e9 => ?_) (fun e9 => ?_)
                  · refine Sp.step rfl rfl rfl (go_sw (t := 129) (sw_of e9 rfl)) ?_
                    refine Sp.step rfl rfl rfl rfl ?_
                    refine Sp.step rfl rfl rfl (xg_F (c := 11) (f := 4) rfl rfl rfl rfl rfl) ?_
                    refine Sp.step rfl rfl rfl (xg_F (c := 0) (f := 4) rfl rfl rfl rfl rfl) ?_
                    refine Sp.step rfl rfl rfl (xg_I (c := 5) (f := 0) rfl rfl rfl rfl) ?_
                    exact Sp.iret rfl rfl rfl rfl (fun _ _ h => h)
                  · refine Sp.iteV (fun e10 => ?_) (fun e10 => ?_)
                    · refine Sp.step rfl rfl rfl (go_sw (t := 140) (sw_of e10 rfl)) ?_
                      refine Sp.step rfl rfl rfl rfl ?_
                      refine Sp.step rfl rfl rfl (xg_F (c := 11) (f := 3) rfl rfl rfl rfl rfl) ?_
                      refine Sp.step rfl rfl rfl (xg_I (c := 2) (f := 0) rfl rfl rfl rfl) ?_
                      exact Sp.iret rfl rfl rfl rfl (fun _ _ h => h)
                    · refine Sp.step rfl rfl rfl (go_sw (t := 148) (mjSw_out _ (by
                        intro q hq
                        simp only [List.mem_cons, List.not_mem_nil, or_false] at hq
                        rcases hq with rfl | rfl | rfl | rfl | rfl | rfl | rfl | rfl | rfl | rfl
                        · exact e1
                        · exact e2
                        · exact e3
                        · exact e4
                        · exact e5
                        · exact e6
                        · exact e7
                        · exact e8
                        · exact e9
                        · exact e10))) ?_
                      refine Sp.step rfl rfl rfl rfl ?_
                      exact Sp.iret rfl rfl rfl rfl (fun _ _ h => h)
def f_M_cls (x : Int32) (y : Int32) (z : Int32) (M : MS) : Option (Int32 × MS) := (if M.1 60 3 = 10 then some ((-1), M) else (if x = (-1) then (if 0 ≤ y ∧ y ≤ 6 then (if 0 ≤ z ∧ z ≤ 6 then (if ixo (M.1 60 3) 10 then (lt (mw M 61 (M.1 60 3).toNatClampNeg x) fun M8 => (if ixo (M8.1 60 3) 10 then (lt (mw M8 62 (M8.1 60 3).toNatClampNeg y) fun M10 => (if ixo (M10.1 60 3) 10 then (lt (mw M10 63 (M10.1 60 3).toNatClampNeg z) fun M12 => (lt (mw M12 60 3 ((M12.1 60 3) + 1)) fun M13 => some ((M13.1 60 3) - 1, M13))) else none)) else none)) else none) else some ((-1), M)) else some ((-1), M)) else (if 0 ≤ x ∧ x ≤ (M.1 60 3) - 1 then (if 0 ≤ y ∧ y ≤ 6 then (if 0 ≤ z ∧ z ≤ 6 then (if ixo (M.1 60 3) 10 then (lt (mw M 61 (M.1 60 3).toNatClampNeg x) fun M23 => (if ixo (M23.1 60 3) 10 then (lt (mw M23 62 (M23.1 60 3).toNatClampNeg y) fun M25 => (if ixo (M25.1 60 3) 10 then (lt (mw M25 63 (M25.1 60 3).toNatClampNeg z) fun M27 => (lt (mw M27 60 3 ((M27.1 60 3) + 1)) fun M28 => some ((M28.1 60 3) - 1, M28))) else none)) else none)) else none) else some ((-1), M)) else some ((-1), M)) else some ((-1), M))))
set_option maxRecDepth 100000 in
set_option maxHeartbeats 4000000 in
theorem s_M_cls {L : Nat} {xs : Nat → Int32} {X : XS} {M : MS} {x : Int32} {y : Int32} {z : Int32} : Sp (mjOO L xs) 22 0 [some (.ref 60), some (.int x), some (.int y), some (.int z)] [] (hS X M) (f_M_cls x y z M) (KEM X) := by
  unfold f_M_cls
  refine Sp.step rfl rfl rfl rfl ?_
  refine Sp.step rfl rfl rfl (mg_I (f := 3) rfl rfl rfl) ?_
  refine Sp.step rfl rfl rfl rfl ?_
  refine Sp.if2 rfl rfl rfl rfl (fun e1 => ?_) (fun e1 => ?_)
  · refine Sp.step rfl rfl rfl rfl ?_
    exact Sp.iret rfl rfl rfl rfl (fun _ _ h => h)
  · refine Sp.step rfl rfl rfl rfl ?_
    refine Sp.step rfl rfl rfl rfl ?_
    refine Sp.if2 rfl rfl rfl rfl (fun e2 => ?_) (fun e2 => ?_)
    · refine Sp.step rfl rfl rfl rfl ?_
      refine Sp.step rfl rfl rfl rfl ?_
      refine Sp.step rfl rfl rfl rfl ?_
      refine Sp.callP rfl rfl rfl rfl s_isIn (fun e3 => ?_) (fun e3 => ?_)
      · refine Sp.step rfl rfl rfl rfl ?_
        refine Sp.step rfl rfl rfl rfl ?_
        refine Sp.step rfl rfl rfl rfl ?_
        refine Sp.step rfl rfl rfl rfl ?_
        refine Sp.callP rfl rfl rfl rfl s_isIn (fun e5 => ?_) (fun e5 => ?_)
        · refine Sp.step rfl rfl rfl rfl ?_
          refine Sp.step rfl rfl rfl rfl ?_
          refine Sp.step rfl rfl rfl (mg_F (f := 0) rfl rfl rfl rfl) ?_
          refine Sp.step rfl rfl rfl rfl ?_
          refine Sp.step rfl rfl rfl (mg_I (f := 3) rfl rfl rfl) ?_
          refine Sp.step rfl rfl rfl rfl ?_
          refine Sp.guard (fun e7 => ?_)
          refine Sp.step rfl rfl rfl (mst rfl rfl (by decide) e7) ?_
          refine Sp.step rfl rfl rfl rfl ?_
          refine Sp.step rfl rfl rfl (mg_F (f := 1) rfl rfl rfl rfl) ?_
          refine Sp.step rfl rfl rfl rfl ?_
          refine Sp.step rfl rfl rfl (mg_I (f := 3) rfl rfl rfl) ?_
          refine Sp.step rfl rfl rfl rfl ?_
          refine Sp.guard (fun e9 => ?_)
          refine Sp.step rfl rfl rfl (mst rfl rfl (by decide) e9) ?_
          refine Sp.step rfl rfl rfl rfl ?_
          refine Sp.step rfl rfl rfl (mg_F (f := 2) rfl rfl rfl rfl) ?_
          refine Sp.step rfl rfl rfl rfl ?_
          refine Sp.step rfl rfl rfl (mg_I (f := 3) rfl rfl rfl) ?_
          refine Sp.step rfl rfl rfl rfl ?_
          refine Sp.guard (fun e11 => ?_)
          refine Sp.step rfl rfl rfl (mst rfl rfl (by decide) e11) ?_
          refine Sp.step rfl rfl rfl rfl ?_
          refine Sp.step rfl rfl rfl rfl ?_
          refine Sp.step rfl rfl rfl (mg_I (f := 3) rfl rfl rfl) ?_
          refine Sp.step rfl rfl rfl rfl ?_
          refine Sp.step rfl rfl rfl rfl ?_
          refine Sp.step rfl rfl rfl (mp_I (f := 3) rfl rfl rfl rfl) ?_
          refine Sp.step rfl rfl rfl rfl ?_
          refine Sp.step rfl rfl rfl (mg_I (f := 3) rfl rfl rfl) ?_
          refine Sp.step rfl rfl rfl rfl ?_
          refine Sp.step rfl rfl rfl rfl ?_
          exact Sp.iret rfl rfl rfl rfl (fun _ _ h => h)
        · refine Sp.step rfl rfl rfl rfl ?_
          refine Sp.step rfl rfl rfl rfl ?_
          exact Sp.iret rfl rfl rfl rfl (fun _ _ h => h)
      · refine Sp.step rfl rfl rfl rfl ?_
        refine Sp.step rfl rfl rfl rfl ?_
        exact Sp.iret rfl rfl rfl rfl (fun _ _ h => h)
    · refine Sp.step rfl rfl rfl rfl ?_
      refine Sp.step rfl rfl rfl rfl ?_
      refine Sp.step rfl rfl rfl rfl ?_
      refine Sp.step rfl rfl rfl (mg_I (f := 3) rfl rfl rfl) ?_
      refine Sp.step rfl rfl rfl rfl ?_
      refine Sp.step rfl rfl rfl rfl ?_
      refine Sp.callP rfl rfl rfl rfl s_isIn (fun e16 => ?_) (fun e16 => ?_)
      · refine Sp.step rfl rfl rfl rfl ?_
        refine Sp.step rfl rfl rfl rfl ?_
        refine Sp.step rfl rfl rfl rfl ?_
        refine Sp.step rfl rfl rfl rfl ?_
        refine Sp.callP rfl rfl rfl rfl s_isIn (fun e18 => ?_) (fun e18 => ?_)
        · refine Sp.step rfl rfl rfl rfl ?_
          refine Sp.step rfl rfl rfl rfl ?_
          refine Sp.step rfl rfl rfl rfl ?_
          refine Sp.step rfl rfl rfl rfl ?_
          refine Sp.callP rfl rfl rfl rfl s_isIn (fun e20 => ?_) (fun e20 => ?_)
          · refine Sp.step rfl rfl rfl rfl ?_
            refine Sp.step rfl rfl rfl rfl ?_
            refine Sp.step rfl rfl rfl (mg_F (f := 0) rfl rfl rfl rfl) ?_
            refine Sp.step rfl rfl rfl rfl ?_
            refine Sp.step rfl rfl rfl (mg_I (f := 3) rfl rfl rfl) ?_
            refine Sp.step rfl rfl rfl rfl ?_
            refine Sp.guard (fun e22 => ?_)
            refine Sp.step rfl rfl rfl (mst rfl rfl (by decide) e22) ?_
            refine Sp.step rfl rfl rfl rfl ?_
            refine Sp.step rfl rfl rfl (mg_F (f := 1) rfl rfl rfl rfl) ?_
            refine Sp.step rfl rfl rfl rfl ?_
            refine Sp.step rfl rfl rfl (mg_I (f := 3) rfl rfl rfl) ?_
            refine Sp.step rfl rfl rfl rfl ?_
            refine Sp.guard (fun e24 => ?_)
            refine Sp.step rfl rfl rfl (mst rfl rfl (by decide) e24) ?_
            refine Sp.step rfl rfl rfl rfl ?_
            refine Sp.step rfl rfl rfl (mg_F (f := 2) rfl rfl rfl rfl) ?_
            refine Sp.step rfl rfl rfl rfl ?_
            refine Sp.step rfl rfl rfl (mg_I (f := 3) rfl rfl rfl) ?_
            refine Sp.step rfl rfl rfl rfl ?_
            refine Sp.guard (fun e26 => ?_)
            refine Sp.step rfl rfl rfl (mst rfl rfl (by decide) e26) ?_
            refine Sp.step rfl rfl rfl rfl ?_
            refine Sp.step rfl rfl rfl rfl ?_
            refine Sp.step rfl rfl rfl (mg_I (f := 3) rfl rfl rfl) ?_
            refine Sp.step rfl rfl rfl rfl ?_
            refine Sp.step rfl rfl rfl rfl ?_
            refine Sp.step rfl rfl rfl (mp_I (f := 3) rfl rfl rfl rfl) ?_
            refine Sp.step rfl rfl rfl rfl ?_
            refine Sp.step rfl rfl rfl (mg_I (f := 3) rfl rfl rfl) ?_
            refine Sp.step rfl rfl rfl rfl ?_
            refine Sp.step rfl rfl rfl rfl ?_
            exact Sp.iret rfl rfl rfl rfl (fun _ _ h => h)
          · refine Sp.step rfl rfl rfl rfl ?_
            refine Sp.step rfl rfl rfl rfl ?_
            exact Sp.iret rfl rfl rfl rfl (fun _ _ h => h)
        · refine Sp.step rfl rfl rfl rfl ?_
          refine Sp.step rfl rfl rfl rfl ?_
          exact Sp.iret rfl rfl rfl rfl (fun _ _ h => h)
      · refine Sp.step rfl rfl rfl rfl ?_
        refine Sp.step rfl rfl rfl rfl ?_
        exact Sp.iret rfl rfl rfl rfl (fun _ _ h => h)
def b117_M_method (x : Int32) (y : Int32) (z : Int32) (u : Int32) (v : Int32) (M : MS) (x16 : Int32) : Option (Int32 ⊕ (Int32 ⊕ (Int32 × MS))) := (if M.1 60 15 ≤ x16 then some (.inr (.inl x16)) else (if y = (-2) then some (.inl (x16 + 1)) else (if ixo x16 24 then (if ¬ M.1 65 x16.toNatClampNeg = y then some (.inl (x16 + 1)) else (if M.1 64 x16.toNatClampNeg = x then some (.inr (.inr ((-1), M))) else (if ¬ M.1 66 x16.toNatClampNeg = z then some (.inr (.inr ((-1), M))) else (if ¬ M.1 67 x16.toNatClampNeg = u then some (.inr (.inr ((-1), M))) else (if M.1 68 x16.toNatClampNeg = v then some (.inl (x16 + 1)) else some (.inr (.inr ((-1), M)))))))) else none)))
def f_M_method (x : Int32) (y : Int32) (z : Int32) (u : Int32) (v : Int32) (t : Int32) (M : MS) : Option (Int32 × MS) := (if 0 ≤ x ∧ x ≤ (M.1 60 3) - 1 then (if y = (-2) then (if 0 ≤ z ∧ z ≤ 4 then (if 0 ≤ v ∧ v ≤ 2 then (if 0 ≤ t ∧ t ≤ 12 then (if M.1 60 15 = 24 then some ((-1), M) else (if u < 0 then some ((-1), M) else (if (1 : Int32) <<< ((z : Int32) &&& 31) ≤ u then some ((-1), M) else (if ¬ y = (-2) then (if z + 1 ≤ t then ((lp (b117_M_method x y z u v M) 10000 (0 : Int32)).bind fun s => sb s fun x25 => (if ixo (M.1 60 15) 24 then (lt (mw M 64 (M.1 60 15).toNatClampNeg x) fun M27 => (if ixo (M27.1 60 15) 24 then (lt (mw M27 65 (M27.1 60 15).toNatClampNeg y) fun M29 => (if ixo (M29.1 60 15) 24 then (lt (mw M29 66 (M29.1 60 15).toNatClampNeg z) fun M31 => (if ixo (M31.1 60 15) 24 then (lt (mw M31 67 (M31.1 60 15).toNatClampNeg u) fun M33 => (if ixo (M33.1 60 15) 24 then (lt (mw M33 68 (M33.1 60 15).toNatClampNeg v) fun M35 => (if ixo (M35.1 60 15) 24 then (lt (mw M35 69 (M35.1 60 15).toNatClampNeg t) fun M37 => (if ixo (M37.1 60 15) 24 then (lt (mw M37 70 (M37.1 60 15).toNatClampNeg 0) fun M39 => (if ixo (M39.1 60 15) 24 then (lt (mw M39 73 (M39.1 60 15).toNatClampNeg 0) fun M41 => (lt (mw M41 60 15 ((M41.1 60 15) + 1)) fun M42 => some ((M42.1 60 15) - 1, M42))) else none)) else none)) else none)) else none)) else none)) else none)) else none)) else none)) else some ((-1), M)) else (if z + 0 ≤ t then ((lp (b117_M_method x y z u v M) 10000 (0 : Int32)).bind fun s => sb s fun x53 => (if ixo (M.1 60 15) 24 then (lt (mw M 64 (M.1 60 15).toNatClampNeg x) fun M55 => (if ixo (M55.1 60 15) 24 then (lt (mw M55 65 (M55.1 60 15).toNatClampNeg y) fun M57 => (if ixo (M57.1 60 15) 24 then (lt (mw M57 66 (M57.1 60 15).toNatClampNeg z) fun M59 => (if ixo (M59.1 60 15) 24 then (lt (mw M59 67 (M59.1 60 15).toNatClampNeg u) fun M61 => (if ixo (M61.1 60 15) 24 then (lt (mw M61 68 (M61.1 60 15).toNatClampNeg v) fun M63 => (if ixo (M63.1 60 15) 24 then (lt (mw M63 69 (M63.1 60 15).toNatClampNeg t) fun M65 => (if ixo (M65.1 60 15) 24 then (lt (mw M65 70 (M65.1 60 15).toNatClampNeg 0) fun M67 => (if ixo (M67.1 60 15) 24 then (lt (mw M67 73 (M67.1 60 15).toNatClampNeg 0) fun M69 => (lt (mw M69 60 15 ((M69.1 60 15) + 1)) fun M70 => some ((M70.1 60 15) - 1, M70))) else none)) else none)) else none)) else none)) else none)) else none)) else none)) else none)) else some ((-1), M)))))) else some ((-1), M)) else some ((-1), M)) else some ((-1), M)) else (if 0 ≤ y ∧ y ≤ 7 then (if 0 ≤ z ∧ z ≤ 4 then (if 0 ≤ v ∧ v ≤ 2 then (if 0 ≤ t ∧ t ≤ 12 then (if M.1 60 15 = 24 then some ((-1), M) else (if u < 0 then some ((-1), M) else (if (1 : Int32) <<< ((z : Int32) &&& 31) ≤ u then some ((-1), M) else (if ¬ y = (-2) then (if z + 1 ≤ t then ((lp (b117_M_method x y z u v M) 10000 (0 : Int32)).bind fun s => sb s fun x100 => (if ixo (M.1 60 15) 24 then (lt (mw M 64 (M.1 60 15).toNatClampNeg x) fun M102 => (if ixo (M102.1 60 15) 24 then (lt (mw M102 65 (M102.1 60 15).toNatClampNeg y) fun M104 => (if ixo (M104.1 60 15) 24 then (lt (mw M104 66 (M104.1 60 15).toNatClampNeg z) fun M106 => (if ixo (M106.1 60 15) 24 then (lt (mw M106 67 (M106.1 60 15).toNatClampNeg u) fun M108 => (if ixo (M108.1 60 15) 24 then (lt (mw M108 68 (M108.1 60 15).toNatClampNeg v) fun M110 => (if ixo (M110.1 60 15) 24 then (lt (mw M110 69 (M110.1 60 15).toNatClampNeg t) fun M112 => (if ixo (M112.1 60 15) 24 then (lt (mw M112 70 (M112.1 60 15).toNatClampNeg 0) fun M114 => (if ixo (M114.1 60 15) 24 then (lt (mw M114 73 (M114.1 60 15).toNatClampNeg 0) fun M116 => (lt (mw M116 60 15 ((M116.1 60 15) + 1)) fun M117 => some ((M117.1 60 15) - 1, M117))) else none)) else none)) else none)) else none)) else none)) else none)) else none)) else none)) else some ((-1), M)) else (if z + 0 ≤ t then ((lp (b117_M_method x y z u v M) 10000 (0 : Int32)).bind fun s => sb s fun x128 => (if ixo (M.1 60 15) 24 then (lt (mw M 64 (M.1 60 15).toNatClampNeg x) fun M130 => (if ixo (M130.1 60 15) 24 then (lt (mw M130 65 (M130.1 60 15).toNatClampNeg y) fun M132 => (if ixo (M132.1 60 15) 24 then (lt (mw M132 66 (M132.1 60 15).toNatClampNeg z) fun M134 => (if ixo (M134.1 60 15) 24 then (lt (mw M134 67 (M134.1 60 15).toNatClampNeg u) fun M136 => (if ixo (M136.1 60 15) 24 then (lt (mw M136 68 (M136.1 60 15).toNatClampNeg v) fun M138 => (if ixo (M138.1 60 15) 24 then (lt (mw M138 69 (M138.1 60 15).toNatClampNeg t) fun M140 => (if ixo (M140.1 60 15) 24 then (lt (mw M140 70 (M140.1 60 15).toNatClampNeg 0) fun M142 => (if ixo (M142.1 60 15) 24 then (lt (mw M142 73 (M142.1 60 15).toNatClampNeg 0) fun M144 => (lt (mw M144 60 15 ((M144.1 60 15) + 1)) fun M145 => some ((M145.1 60 15) - 1, M145))) else none)) else none)) else none)) else none)) else none)) else none)) else none)) else none)) else some ((-1), M)))))) else some ((-1), M)) else some ((-1), M)) else some ((-1), M)) else some ((-1), M))) else some ((-1), M))
set_option maxRecDepth 100000 in
set_option maxHeartbeats 4000000 in
theorem s_M_method {L : Nat} {xs : Nat → Int32} {X : XS} {M : MS} {x : Int32} {y : Int32} {z : Int32} {u : Int32} {v : Int32} {t : Int32} : Sp (mjOO L xs) 23 0 [some (.ref 60), some (.int x), some (.int y), some (.int z), some (.int u), some (.int v), some (.int t), none, none] [] (hS X M) (f_M_method x y z u v t M) (KEM X) := by
  unfold f_M_method
  refine Sp.step rfl rfl rfl rfl ?_
  refine Sp.step rfl rfl rfl rfl ?_
  refine Sp.step rfl rfl rfl rfl ?_
  refine Sp.step rfl rfl rfl (mg_I (f := 3) rfl rfl rfl) ?_
  refine Sp.step rfl rfl rfl rfl ?_
  refine Sp.step rfl rfl rfl rfl ?_
  refine Sp.callP rfl rfl rfl rfl s_isIn (fun e1 => ?_) (fun e1 => ?_)
  · refine Sp.step rfl rfl rfl rfl ?_
    refine Sp.step rfl rfl rfl rfl ?_
    refine Sp.step rfl rfl rfl rfl ?_
    refine Sp.if2 rfl rfl rfl rfl (fun e3 => ?_) (fun e3 => ?_)
    · refine Sp.step rfl rfl rfl rfl ?_
      refine Sp.step rfl rfl rfl rfl ?_
      refine Sp.step rfl rfl rfl rfl ?_
      refine Sp.callP rfl rfl rfl rfl s_isIn (fun e4 => ?_) (fun e4 => ?_)
      · refine Sp.step rfl rfl rfl rfl ?_
        refine Sp.step rfl rfl rfl rfl ?_
        refine Sp.step rfl rfl rfl rfl ?_
        refine Sp.step rfl rfl rfl rfl ?_
        refine Sp.callP rfl rfl rfl rfl s_isIn (fun e6 => ?_) (fun e6 => ?_)
        · refine Sp.step rfl rfl rfl rfl ?_
          refine Sp.step rfl rfl rfl rfl ?_
          refine Sp.step rfl rfl rfl rfl ?_
          refine Sp.step rfl rfl rfl rfl ?_
          refine Sp.callP rfl rfl rfl rfl s_isIn (fun e8 => ?_) (fun e8 => ?_)
          · refine Sp.step rfl rfl rfl rfl ?_
            refine Sp.step rfl rfl rfl rfl ?_
            refine Sp.step rfl rfl rfl rfl ?_
            refine Sp.step rfl rfl rfl rfl ?_
            refine Sp.step rfl rfl rfl rfl ?_
            refine Sp.step rfl rfl rfl rfl ?_
            refine Sp.step rfl rfl rfl rfl ?_
            refine Sp.step rfl rfl rfl (mg_I (f := 15) rfl rfl rfl) ?_
            refine Sp.step rfl rfl rfl rfl ?_
            refine Sp.if2 rfl rfl rfl rfl (fun e11 => ?_) (fun e11 => ?_)
            · refine Sp.step rfl rfl rfl rfl ?_
              exact Sp.iret rfl rfl rfl rfl (fun _ _ h => h)
            · refine Sp.step rfl rfl rfl rfl ?_
              refine Sp.if1 rfl rfl rfl rfl (fun e12 => ?_) (fun e12 => ?_)
              · refine Sp.step rfl rfl rfl rfl ?_
                exact Sp.iret rfl rfl rfl rfl (fun _ _ h => h)
              · refine Sp.step rfl rfl rfl rfl ?_
                refine Sp.step rfl rfl rfl rfl ?_
                refine Sp.step rfl rfl rfl rfl ?_
                refine Sp.step rfl rfl rfl rfl ?_
                refine Sp.if2 rfl rfl rfl rfl (fun e13 => ?_) (fun e13 => ?_)
                · refine Sp.step rfl rfl rfl rfl ?_
                  exact Sp.iret rfl rfl rfl rfl (fun _ _ h => h)
                · refine Sp.step rfl rfl rfl rfl ?_
                  refine Sp.step rfl rfl rfl rfl ?_
                  refine Sp.step rfl rfl rfl rfl ?_
                  refine Sp.step rfl rfl rfl rfl ?_
                  refine Sp.if2 rfl rfl rfl rfl (fun e14 => ?_) (fun e14 => ?_)
                  · refine Sp.step rfl rfl rfl rfl ?_
                    refine Sp.step rfl rfl rfl rfl ?_
                    refine Sp.if2 rfl rfl rfl rfl (fun e15 => ?_) (fun e15 => ?_)
                    · refine Sp.step rfl rfl rfl rfl ?_
                      refine Sp.step rfl rfl rfl rfl ?_
                      refine Sp.weak (l0 := [some (.ref 60), some (.int x), some (.int y), some (.int z), some (.int u), some (.int v), some (.int t), none, some (.int 0)]) ⟨rfl, rfl, rfl, rfl, rfl, rfl, rfl, rfl, trivial⟩ ?_
                      refine Sp.loopY (pe := 197) (mf := (fun (x16 : Int32) => [some (.ref 60), some (.int x), some (.int y), some (.int z), some (.int u), some (.int v), some (.int t), none, some (.int x16)])) (hf := (fun (x16 : Int32) => hS X M)) (fun x16 => ?_) (fun x25 => ?_) _ _
                      · unfold b117_M_method
                        refine Sp.step rfl rfl rfl rfl ?_
                        refine Sp.step rfl rfl rfl rfl ?_
                        refine Sp.step rfl rfl rfl (mg_I (f := 15) rfl rfl rfl) ?_
                        refine Sp.if2 rfl rfl rfl rfl (fun e17 => ?_) (fun e17 => ?_)
                        · exact Sp.jmp (l0 := [some (.ref 60), some (.int x), some (.int y), some (.int z), some (.int u), some (.int v), some (.int t), none, some (.int x16)]) ⟨rfl, rfl, rfl, rfl, rfl, rfl, rfl, rfl, trivial⟩ (fun _ _ h => h)
                        · refine Sp.step rfl rfl rfl rfl ?_
                          refine Sp.step rfl rfl rfl rfl ?_
                          refine Sp.if2 rfl rfl rfl rfl (fun e18 => ?_) (fun e18 => ?_)
                          · refine Sp.step rfl rfl rfl rfl ?_
                            refine Sp.step rfl rfl rfl rfl ?_
                            exact Sp.jmp (l0 := [some (.ref 60), some (.int x), some (.int y), some (.int z), some (.int u), some (.int v), some (.int t), none, some (.int (x16 + 1))]) ⟨rfl, rfl, rfl, rfl, rfl, rfl, rfl, rfl, trivial⟩ (fun _ _ h => h)
                          · refine Sp.step rfl rfl rfl rfl ?_
                            refine Sp.step rfl rfl rfl (mg_F (f := 5) rfl rfl rfl rfl) ?_
                            refine Sp.step rfl rfl rfl rfl ?_
                            refine Sp.guard (fun e19 => ?_)
                            refine Sp.step rfl rfl rfl (mld rfl rfl (by decide) e19) ?_
                            refine Sp.step rfl rfl rfl rfl ?_
                            refine Sp.if2 rfl rfl rfl rfl (fun e20 => ?_) (fun e20 => ?_)
                            · refine Sp.step rfl rfl rfl rfl ?_
                              refine Sp.step rfl rfl rfl rfl ?_
                              exact Sp.jmp (l0 := [some (.ref 60), some (.int x), some (.int y), some (.int z), some (.int u), some (.int v), some (.int t), none, some (.int (x16 + 1))]) ⟨rfl, rfl, rfl, rfl, rfl, rfl, rfl, rfl, trivial⟩ (fun _ _ h => h)
                            · refine Sp.step rfl rfl rfl rfl ?_
                              refine Sp.step rfl rfl rfl (mg_F (f := 4) rfl rfl rfl rfl) ?_
                              refine Sp.step rfl rfl rfl rfl ?_
                              refine Sp.step rfl rfl rfl (mld rfl rfl (by decide) e19) ?_
                              refine Sp.step rfl rfl rfl rfl ?_
                              refine Sp.if2 rfl rfl rfl rfl (fun e21 => ?_) (fun e21 => ?_)
                              · refine Sp.step rfl rfl rfl rfl ?_
                                exact Sp.iret rfl rfl rfl rfl (fun _ _ h => h)
                              · refine Sp.step rfl rfl rfl rfl ?_
                                refine Sp.step rfl rfl rfl (mg_F (f := 6) rfl rfl rfl rfl) ?_
                                refine Sp.step rfl rfl rfl rfl ?_
                                refine Sp.step rfl rfl rfl (mld rfl rfl (by decide) e19) ?_
                                refine Sp.step rfl rfl rfl rfl ?_
                                refine Sp.if2 rfl rfl rfl rfl (fun e22 => ?_) (fun e22 => ?_)
                                · refine Sp.step rfl rfl rfl rfl ?_
                                  exact Sp.iret rfl rfl rfl rfl (fun _ _ h => h)
                                · refine Sp.step rfl rfl rfl rfl ?_
                                  refine Sp.step rfl rfl rfl (mg_F (f := 7) rfl rfl rfl rfl) ?_
                                  refine Sp.step rfl rfl rfl rfl ?_
                                  refine Sp.step rfl rfl rfl (mld rfl rfl (by decide) e19) ?_
                                  refine Sp.step rfl rfl rfl rfl ?_
                                  refine Sp.if2 rfl rfl rfl rfl (fun e23 => ?_) (fun e23 => ?_)
                                  · refine Sp.step rfl rfl rfl rfl ?_
                                    exact Sp.iret rfl rfl rfl rfl (fun _ _ h => h)
                                  · refine Sp.step rfl rfl rfl rfl ?_
                                    refine Sp.step rfl rfl rfl (mg_F (f := 8) rfl rfl rfl rfl) ?_
                                    refine Sp.step rfl rfl rfl rfl ?_
                                    refine Sp.step rfl rfl rfl (mld rfl rfl (by decide) e19) ?_
                                    refine Sp.step rfl rfl rfl rfl ?_
                                    refine Sp.if2 rfl rfl rfl rfl (fun e24 => ?_) (fun e24 => ?_)
                                    · refine Sp.step rfl rfl rfl rfl ?_
                                      refine Sp.step rfl rfl rfl rfl ?_
                                      exact Sp.jmp (l0 := [some (.ref 60), some (.int x), some (.int y), some (.int z), some (.int u), some (.int v), some (.int t), none, some (.int (x16 + 1))]) ⟨rfl, rfl, rfl, rfl, rfl, rfl, rfl, rfl, trivial⟩ (fun _ _ h => h)
                                    · refine Sp.step rfl rfl rfl rfl ?_
                                      exact Sp.iret rfl rfl rfl rfl (fun _ _ h => h)
                      · refine Sp.step rfl rfl rfl rfl ?_
                        refine Sp.step rfl rfl rfl (mg_F (f := 4) rfl rfl rfl rfl) ?_
                        refine Sp.step rfl rfl rfl rfl ?_
                        refine Sp.step rfl rfl rfl (mg_I (f := 15) rfl rfl rfl) ?_
                        refine Sp.step rfl rfl rfl rfl ?_
                        refine Sp.guard (fun e26 => ?_)
                        refine Sp.step rfl rfl rfl (mst rfl rfl (by decide) e26) ?_
                        refine Sp.step rfl rfl rfl rfl ?_
                        refine Sp.step rfl rfl rfl (mg_F (f := 5) rfl rfl rfl rfl) ?_
                        refine Sp.step rfl rfl rfl rfl ?_
                        refine Sp.step rfl rfl rfl (mg_I (f := 15) rfl rfl rfl) ?_
                        refine Sp.step rfl rfl rfl rfl ?_
                        refine Sp.guard (fun e28 => ?_)
                        refine Sp.step rfl rfl rfl (mst rfl rfl (by decide) e28) ?_
                        refine Sp.step rfl rfl rfl rfl ?_
                        refine Sp.step rfl rfl rfl (mg_F (f := 6) rfl rfl rfl rfl) ?_
                        refine Sp.step rfl rfl rfl rfl ?_
                        refine Sp.step rfl rfl rfl (mg_I (f := 15) rfl rfl rfl) ?_
                        refine Sp.step rfl rfl rfl rfl ?_
                        refine Sp.guard (fun e30 => ?_)
                        refine Sp.step rfl rfl rfl (mst rfl rfl (by decide) e30) ?_
                        refine Sp.step rfl rfl rfl rfl ?_
                        refine Sp.step rfl rfl rfl (mg_F (f := 7) rfl rfl rfl rfl) ?_
                        refine Sp.step rfl rfl rfl rfl ?_
                        refine Sp.step rfl rfl rfl (mg_I (f := 15) rfl rfl rfl) ?_
                        refine Sp.step rfl rfl rfl rfl ?_
                        refine Sp.guard (fun e32 => ?_)
                        refine Sp.step rfl rfl rfl (mst rfl rfl (by decide) e32) ?_
                        refine Sp.step rfl rfl rfl rfl ?_
                        refine Sp.step rfl rfl rfl (mg_F (f := 8) rfl rfl rfl rfl) ?_
                        refine Sp.step rfl rfl rfl rfl ?_
                        refine Sp.step rfl rfl rfl (mg_I (f := 15) rfl rfl rfl) ?_
                        refine Sp.step rfl rfl rfl rfl ?_
                        refine Sp.guard (fun e34 => ?_)
                        refine Sp.step rfl rfl rfl (mst rfl rfl (by decide) e34) ?_
                        refine Sp.step rfl rfl rfl rfl ?_
                        refine Sp.step rfl rfl rfl (mg_F (f := 9) rfl rfl rfl rfl) ?_
                        refine Sp.step rfl rfl rfl rfl ?_
                        refine Sp.step rfl rfl rfl (mg_I (f := 15) rfl rfl rfl) ?_
                        refine Sp.step rfl rfl rfl rfl ?_
                        refine Sp.guard (fun e36 => ?_)
                        refine Sp.step rfl rfl rfl (mst rfl rfl (by decide) e36) ?_
                        refine Sp.step rfl rfl rfl rfl ?_
                        refine Sp.step rfl rfl rfl (mg_F (f := 10) rfl rfl rfl rfl) ?_
                        refine Sp.step rfl rfl rfl rfl ?_
                        refine Sp.step rfl rfl rfl (mg_I (f := 15) rfl rfl rfl) ?_
                        refine Sp.step rfl rfl rfl rfl ?_
                        refine Sp.guard (fun e38 => ?_)
                        refine Sp.step rfl rfl rfl (mst rfl rfl (by decide) e38) ?_
                        refine Sp.step rfl rfl rfl rfl ?_
                        refine Sp.step rfl rfl rfl (mg_F (f := 13) rfl rfl rfl rfl) ?_
                        refine Sp.step rfl rfl rfl rfl ?_
                        refine Sp.step rfl rfl rfl (mg_I (f := 15) rfl rfl rfl) ?_
                        refine Sp.step rfl rfl rfl rfl ?_
                        refine Sp.guard (fun e40 => ?_)
                        refine Sp.step rfl rfl rfl (mst rfl rfl (by decide) e40) ?_
                        refine Sp.step rfl rfl rfl rfl ?_
                        refine Sp.step rfl rfl rfl rfl ?_
                        refine Sp.step rfl rfl rfl (mg_I (f := 15) rfl rfl rfl) ?_
                        refine Sp.step rfl rfl rfl rfl ?_
                        refine Sp.step rfl rfl rfl rfl ?_
                        refine Sp.step rfl rfl rfl (mp_I (f := 15) rfl rfl rfl rfl) ?_
                        refine Sp.step rfl rfl rfl rfl ?_
                        refine Sp.step rfl rfl rfl (mg_I (f := 15) rfl rfl rfl) ?_
                        refine Sp.step rfl rfl rfl rfl ?_
                        refine Sp.step rfl rfl rfl rfl ?_
                        exact Sp.iret rfl rfl rfl rfl (fun _ _ h => h)
                    · refine Sp.step rfl rfl rfl rfl ?_
                      exact Sp.iret rfl rfl rfl rfl (fun _ _ h => h)
                  · refine Sp.step rfl rfl rfl rfl ?_
                    refine Sp.step rfl rfl rfl rfl ?_
                    refine Sp.step rfl rfl rfl rfl ?_
                    refine Sp.if2 rfl rfl rfl rfl (fun e43 => ?_) (fun e43 => ?_)
                    · refine Sp.step rfl rfl rfl rfl ?_
                      refine Sp.step rfl rfl rfl rfl ?_
                      refine Sp.weak (l0 := [some (.ref 60), some (.int x), some (.int y), some (.int z), some (.int u), some (.int v), some (.int t), none, some (.int 0)]) ⟨rfl, rfl, rfl, rfl, rfl, rfl, rfl, rfl, trivial⟩ ?_
                      refine Sp.loopY (pe := 197) (mf := (fun (x44 : Int32) => [some (.ref 60), some (.int x), some (.int y), some (.int z), some (.int u), some (.int v), some (.int t), none, some (.int x44)])) (hf := (fun (x44 : Int32) => hS X M)) (fun x44 => ?_) (fun x53 => ?_) _ _
                      · unfold b117_M_method
                        refine Sp.step rfl rfl rfl rfl ?_
                        refine Sp.step rfl rfl rfl rfl ?_
                        refine Sp.step rfl rfl rfl (mg_I (f := 15) rfl rfl rfl) ?_
                        refine Sp.if2 rfl rfl rfl rfl (fun e45 => ?_) (fun e45 => ?_)
                        · exact Sp.jmp (l0 := [some (.ref 60), some (.int x), some (.int y), some (.int z), some (.int u), some (.int v), some (.int t), none, some (.int x44)]) ⟨rfl, rfl, rfl, rfl, rfl, rfl, rfl, rfl, trivial⟩ (fun _ _ h => h)
                        · refine Sp.step rfl rfl rfl rfl ?_
                          refine Sp.step rfl rfl rfl rfl ?_
                          refine Sp.if2 rfl rfl rfl rfl (fun e46 => ?_) (fun e46 => ?_)
                          · refine Sp.step rfl rfl rfl rfl ?_
                            refine Sp.step rfl rfl rfl rfl ?_
                            exact Sp.jmp (l0 := [some (.ref 60), some (.int x), some (.int y), some (.int z), some (.int u), some (.int v), some (.int t), none, some (.int (x44 + 1))]) ⟨rfl, rfl, rfl, rfl, rfl, rfl, rfl, rfl, trivial⟩ (fun _ _ h => h)
                          · refine Sp.step rfl rfl rfl rfl ?_
                            refine Sp.step rfl rfl rfl (mg_F (f := 5) rfl rfl rfl rfl) ?_
                            refine Sp.step rfl rfl rfl rfl ?_
                            refine Sp.guard (fun e47 => ?_)
                            refine Sp.step rfl rfl rfl (mld rfl rfl (by decide) e47) ?_
                            refine Sp.step rfl rfl rfl rfl ?_
                            refine Sp.if2 rfl rfl rfl rfl (fun e48 => ?_) (fun e48 => ?_)
                            · refine Sp.step rfl rfl rfl rfl ?_
                              refine Sp.step rfl rfl rfl rfl ?_
                              exact Sp.jmp (l0 := [some (.ref 60), some (.int x), some (.int y), some (.int z), some (.int u), some (.int v), some (.int t), none, some (.int (x44 + 1))]) ⟨rfl, rfl, rfl, rfl, rfl, rfl, rfl, rfl, trivial⟩ (fun _ _ h => h)
                            · refine Sp.step rfl rfl rfl rfl ?_
                              refine Sp.step rfl rfl rfl (mg_F (f := 4) rfl rfl rfl rfl) ?_
                              refine Sp.step rfl rfl rfl rfl ?_
                              refine Sp.step rfl rfl rfl (mld rfl rfl (by decide) e47) ?_
                              refine Sp.step rfl rfl rfl rfl ?_
                              refine Sp.if2 rfl rfl rfl rfl (fun e49 => ?_) (fun e49 => ?_)
                              · refine Sp.step rfl rfl rfl rfl ?_
                                exact Sp.iret rfl rfl rfl rfl (fun _ _ h => h)
                              · refine Sp.step rfl rfl rfl rfl ?_
                                refine Sp.step rfl rfl rfl (mg_F (f := 6) rfl rfl rfl rfl) ?_
                                refine Sp.step rfl rfl rfl rfl ?_
                                refine Sp.step rfl rfl rfl (mld rfl rfl (by decide) e47) ?_
                                refine Sp.step rfl rfl rfl rfl ?_
                                refine Sp.if2 rfl rfl rfl rfl (fun e50 => ?_) (fun e50 => ?_)
                                · refine Sp.step rfl rfl rfl rfl ?_
                                  exact Sp.iret rfl rfl rfl rfl (fun _ _ h => h)
                                · refine Sp.step rfl rfl rfl rfl ?_
                                  refine Sp.step rfl rfl rfl (mg_F (f := 7) rfl rfl rfl rfl) ?_
                                  refine Sp.step rfl rfl rfl rfl ?_
                                  refine Sp.step rfl rfl rfl (mld rfl rfl (by decide) e47) ?_
                                  refine Sp.step rfl rfl rfl rfl ?_
                                  refine Sp.if2 rfl rfl rfl rfl (fun e51 => ?_) (fun e51 => ?_)
                                  · refine Sp.step rfl rfl rfl rfl ?_
                                    exact Sp.iret rfl rfl rfl rfl (fun _ _ h => h)
                                  · refine Sp.step rfl rfl rfl rfl ?_
                                    refine Sp.step rfl rfl rfl (mg_F (f := 8) rfl rfl rfl rfl) ?_
                                    refine Sp.step rfl rfl rfl rfl ?_
                                    refine Sp.step rfl rfl rfl (mld rfl rfl (by decide) e47) ?_
                                    refine Sp.step rfl rfl rfl rfl ?_
                                    refine Sp.if2 rfl rfl rfl rfl (fun e52 => ?_) (fun e52 => ?_)
                                    · refine Sp.step rfl rfl rfl rfl ?_
                                      refine Sp.step rfl rfl rfl rfl ?_
                                      exact Sp.jmp (l0 := [some (.ref 60), some (.int x), some (.int y), some (.int z), some (.int u), some (.int v), some (.int t), none, some (.int (x44 + 1))]) ⟨rfl, rfl, rfl, rfl, rfl, rfl, rfl, rfl, trivial⟩ (fun _ _ h => h)
                                    · refine Sp.step rfl rfl rfl rfl ?_
                                      exact Sp.iret rfl rfl rfl rfl (fun _ _ h => h)
                      · refine Sp.step rfl rfl rfl rfl ?_
                        refine Sp.step rfl rfl rfl (mg_F (f := 4) rfl rfl rfl rfl) ?_
                        refine Sp.step rfl rfl rfl rfl ?_
                        refine Sp.step rfl rfl rfl (mg_I (f := 15) rfl rfl rfl) ?_
                        refine Sp.step rfl rfl rfl rfl ?_
                        refine Sp.guard (fun e54 => ?_)
                        refine Sp.step rfl rfl rfl (mst rfl rfl (by decide) e54) ?_
                        refine Sp.step rfl rfl rfl rfl ?_
                        refine Sp.step rfl rfl rfl (mg_F (f := 5) rfl rfl rfl rfl) ?_
                        refine Sp.step rfl rfl rfl rfl ?_
                        refine Sp.step rfl rfl rfl (mg_I (f := 15) rfl rfl rfl) ?_
                        refine Sp.step rfl rfl rfl rfl ?_
                        refine Sp.guard (fun e56 => ?_)
                        refine Sp.step rfl rfl rfl (mst rfl rfl (by decide) e56) ?_
                        refine Sp.step rfl rfl rfl rfl ?_
                        refine Sp.step rfl rfl rfl (mg_F (f := 6) rfl rfl rfl rfl) ?_
                        refine Sp.step rfl rfl rfl rfl ?_
                        refine Sp.step rfl rfl rfl (mg_I (f := 15) rfl rfl rfl) ?_
                        refine Sp.step rfl rfl rfl rfl ?_
                        refine Sp.guard (fun e58 => ?_)
                        refine Sp.step rfl rfl rfl (mst rfl rfl (by decide) e58) ?_
                        refine Sp.step rfl rfl rfl rfl ?_
                        refine Sp.step rfl rfl rfl (mg_F (f := 7) rfl rfl rfl rfl) ?_
                        refine Sp.step rfl rfl rfl rfl ?_
                        refine Sp.step rfl rfl rfl (mg_I (f := 15) rfl rfl rfl) ?_
                        refine Sp.step rfl rfl rfl rfl ?_
                        refine Sp.guard (fun e60 => ?_)
                        refine Sp.step rfl rfl rfl (mst rfl rfl (by decide) e60) ?_
                        refine Sp.step rfl rfl rfl rfl ?_
                        refine Sp.step rfl rfl rfl (mg_F (f := 8) rfl rfl rfl rfl) ?_
                        refine Sp.step rfl rfl rfl rfl ?_
                        refine Sp.step rfl rfl rfl (mg_I (f := 15) rfl rfl rfl) ?_
                        refine Sp.step rfl rfl rfl rfl ?_
                        refine Sp.guard (fun e62 => ?_)
                        refine Sp.step rfl rfl rfl (mst rfl rfl (by decide) e62) ?_
                        refine Sp.step rfl rfl rfl rfl ?_
                        refine Sp.step rfl rfl rfl (mg_F (f := 9) rfl rfl rfl rfl) ?_
                        refine Sp.step rfl rfl rfl rfl ?_
                        refine Sp.step rfl rfl rfl (mg_I (f := 15) rfl rfl rfl) ?_
                        refine Sp.step rfl rfl rfl rfl ?_
                        refine Sp.guard (fun e64 => ?_)
                        refine Sp.step rfl rfl rfl (mst rfl rfl (by decide) e64) ?_
                        refine Sp.step rfl rfl rfl rfl ?_
                        refine Sp.step rfl rfl rfl (mg_F (f := 10) rfl rfl rfl rfl) ?_
                        refine Sp.step rfl rfl rfl rfl ?_
                        refine Sp.step rfl rfl rfl (mg_I (f := 15) rfl rfl rfl) ?_
                        refine Sp.step rfl rfl rfl rfl ?_
                        refine Sp.guard (fun e66 => ?_)
                        refine Sp.step rfl rfl rfl (mst rfl rfl (by decide) e66) ?_
                        refine Sp.step rfl rfl rfl rfl ?_
                        refine Sp.step rfl rfl rfl (mg_F (f := 13) rfl rfl rfl rfl) ?_
                        refine Sp.step rfl rfl rfl rfl ?_
                        refine Sp.step rfl rfl rfl (mg_I (f := 15) rfl rfl rfl) ?_
                        refine Sp.step rfl rfl rfl rfl ?_
                        refine Sp.guard (fun e68 => ?_)
                        refine Sp.step rfl rfl rfl (mst rfl rfl (by decide) e68) ?_
                        refine Sp.step rfl rfl rfl rfl ?_
                        refine Sp.step rfl rfl rfl rfl ?_
                        refine Sp.step rfl rfl rfl (mg_I (f := 15) rfl rfl rfl) ?_
                        refine Sp.step rfl rfl rfl rfl ?_
                        refine Sp.step rfl rfl rfl rfl ?_
                        refine Sp.step rfl rfl rfl (mp_I (f := 15) rfl rfl rfl rfl) ?_
                        refine Sp.step rfl rfl rfl rfl ?_
                        refine Sp.step rfl rfl rfl (mg_I (f := 15) rfl rfl rfl) ?_
                        refine Sp.step rfl rfl rfl rfl ?_
                        refine Sp.step rfl rfl rfl rfl ?_
                        exact Sp.iret rfl rfl rfl rfl (fun _ _ h => h)
                    · refine Sp.step rfl rfl rfl rfl ?_
                      exact Sp.iret rfl rfl rfl rfl (fun _ _ h => h)
          · refine Sp.step rfl rfl rfl rfl ?_
            refine Sp.step rfl rfl rfl rfl ?_
            refine Sp.step rfl rfl rfl rfl ?_
            refine Sp.step rfl rfl rfl rfl ?_
            refine Sp.step rfl rfl rfl rfl ?_
            refine Sp.step rfl rfl rfl rfl ?_
            exact Sp.iret rfl rfl rfl rfl (fun _ _ h => h)
        · refine Sp.step rfl rfl rfl rfl ?_
          refine Sp.step rfl rfl rfl rfl ?_
          refine Sp.step rfl rfl rfl rfl ?_
          refine Sp.step rfl rfl rfl rfl ?_
          refine Sp.step rfl rfl rfl rfl ?_
          refine Sp.step rfl rfl rfl rfl ?_
          exact Sp.iret rfl rfl rfl rfl (fun _ _ h => h)
      · refine Sp.step rfl rfl rfl rfl ?_
        refine Sp.step rfl rfl rfl rfl ?_
        refine Sp.step rfl rfl rfl rfl ?_
        refine Sp.step rfl rfl rfl rfl ?_
        refine Sp.step rfl rfl rfl rfl ?_
        refine Sp.step rfl rfl rfl rfl ?_
        exact Sp.iret rfl rfl rfl rfl (fun _ _ h => h)
    · refine Sp.step rfl rfl rfl rfl ?_
      refine Sp.step rfl rfl rfl rfl ?_
      refine Sp.step rfl rfl rfl rfl ?_
      refine Sp.callP rfl rfl rfl rfl s_isIn (fun e77 => ?_) (fun e77 => ?_)
      · refine Sp.step rfl rfl rfl rfl ?_
        refine Sp.step rfl rfl rfl rfl ?_
        refine Sp.step rfl rfl rfl rfl ?_
        refine Sp.step rfl rfl rfl rfl ?_
        refine Sp.callP rfl rfl rfl rfl s_isIn (fun e79 => ?_) (fun e79 => ?_)
        · refine Sp.step rfl rfl rfl rfl ?_
          refine Sp.step rfl rfl rfl rfl ?_
          refine Sp.step rfl rfl rfl rfl ?_
          refine Sp.step rfl rfl rfl rfl ?_
          refine Sp.callP rfl rfl rfl rfl s_isIn (fun e81 => ?_) (fun e81 => ?_)
          · refine Sp.step rfl rfl rfl rfl ?_
            refine Sp.step rfl rfl rfl rfl ?_
            refine Sp.step rfl rfl rfl rfl ?_
            refine Sp.step rfl rfl rfl rfl ?_
            refine Sp.callP rfl rfl rfl rfl s_isIn (fun e83 => ?_) (fun e83 => ?_)
            · refine Sp.step rfl rfl rfl rfl ?_
              refine Sp.step rfl rfl rfl rfl ?_
              refine Sp.step rfl rfl rfl rfl ?_
              refine Sp.step rfl rfl rfl rfl ?_
              refine Sp.step rfl rfl rfl rfl ?_
              refine Sp.step rfl rfl rfl rfl ?_
              refine Sp.step rfl rfl rfl rfl ?_
              refine Sp.step rfl rfl rfl (mg_I (f := 15) rfl rfl rfl) ?_
              refine Sp.step rfl rfl rfl rfl ?_
              refine Sp.if2 rfl rfl rfl rfl (fun e86 => ?_) (fun e86 => ?_)
              · refine Sp.step rfl rfl rfl rfl ?_
                exact Sp.iret rfl rfl rfl rfl (fun _ _ h => h)
              · refine Sp.step rfl rfl rfl rfl ?_
                refine Sp.if1 rfl rfl rfl rfl (fun e87 => ?_) (fun e87 => ?_)
                · refine Sp.step rfl rfl rfl rfl ?_
                  exact Sp.iret rfl rfl rfl rfl (fun _ _ h => h)
                · refine Sp.step rfl rfl rfl rfl ?_
                  refine Sp.step rfl rfl rfl rfl ?_
                  refine Sp.step rfl rfl rfl rfl ?_
                  refine Sp.step rfl rfl rfl rfl ?_
                  refine Sp.if2 rfl rfl rfl rfl (fun e88 => ?_) (fun e88 => ?_)
                  · refine Sp.step rfl rfl rfl rfl ?_
                    exact Sp.iret rfl rfl rfl rfl (fun _ _ h => h)
                  · refine Sp.step rfl rfl rfl rfl ?_
                    refine Sp.step rfl rfl rfl rfl ?_
                    refine Sp.step rfl rfl rfl rfl ?_
                    refine Sp.step rfl rfl rfl rfl ?_
                    refine Sp.if2 rfl rfl rfl rfl (fun e89 => ?_) (fun e89 => ?_)
                    · refine Sp.step rfl rfl rfl rfl ?_
                      refine Sp.step rfl rfl rfl rfl ?_
                      refine Sp.if2 rfl rfl rfl rfl (fun e90 => ?_) (fun e90 => ?_)
                      · refine Sp.step rfl rfl rfl rfl ?_
                        refine Sp.step rfl rfl rfl rfl ?_
                        refine Sp.weak (l0 := [some (.ref 60), some (.int x), some (.int y), some (.int z), some (.int u), some (.int v), some (.int t), none, some (.int 0)]) ⟨rfl, rfl, rfl, rfl, rfl, rfl, rfl, rfl, trivial⟩ ?_
                        refine Sp.loopY (pe := 197) (mf := (fun (x91 : Int32) => [some (.ref 60), some (.int x), some (.int y), some (.int z), some (.int u), some (.int v), some (.int t), none, some (.int x91)])) (hf := (fun (x91 : Int32) => hS X M)) (fun x91 => ?_) (fun x100 => ?_) _ _
                        · unfold b117_M_method
                          refine Sp.step rfl rfl rfl rfl ?_
                          refine Sp.step rfl rfl rfl rfl ?_
                          refine Sp.step rfl rfl rfl (mg_I (f := 15) rfl rfl rfl) ?_
                          refine Sp.if2 rfl rfl rfl rfl (fun e92 => ?_) (fun e92 => ?_)
                          · exact Sp.jmp (l0 := [some (.ref 60), some (.int x), some (.int y), some (.int z), some (.int u), some (.int v), some (.int t), none, some (.int x91)]) ⟨rfl, rfl, rfl, rfl, rfl, rfl, rfl, rfl, trivial⟩ (fun _ _ h => h)
                          · refine Sp.step rfl rfl rfl rfl ?_
                            refine Sp.step rfl rfl rfl rfl ?_
                            refine Sp.if2 rfl rfl rfl rfl (fun e93 => ?_) (fun e93 => ?_)
                            · refine Sp.step rfl rfl rfl rfl ?_
                              refine Sp.step rfl rfl rfl rfl ?_
                              exact Sp.jmp (l0 := [some (.ref 60), some (.int x), some (.int y), some (.int z), some (.int u), some (.int v), some (.int t), none, some (.int (x91 + 1))]) ⟨rfl, rfl, rfl, rfl, rfl, rfl, rfl, rfl, trivial⟩ (fun _ _ h => h)
                            · refine Sp.step rfl rfl rfl rfl ?_
                              refine Sp.step rfl rfl rfl (mg_F (f := 5) rfl rfl rfl rfl) ?_
                              refine Sp.step rfl rfl rfl rfl ?_
                              refine Sp.guard (fun e94 => ?_)
                              refine Sp.step rfl rfl rfl (mld rfl rfl (by decide) e94) ?_
                              refine Sp.step rfl rfl rfl rfl ?_
                              refine Sp.if2 rfl rfl rfl rfl (fun e95 => ?_) (fun e95 => ?_)
                              · refine Sp.step rfl rfl rfl rfl ?_
                                refine Sp.step rfl rfl rfl rfl ?_
                                exact Sp.jmp (l0 := [some (.ref 60), some (.int x), some (.int y), some (.int z), some (.int u), some (.int v), some (.int t), none, some (.int (x91 + 1))]) ⟨rfl, rfl, rfl, rfl, rfl, rfl, rfl, rfl, trivial⟩ (fun _ _ h => h)
                              · refine Sp.step rfl rfl rfl rfl ?_
                                refine Sp.step rfl rfl rfl (mg_F (f := 4) rfl rfl rfl rfl) ?_
                                refine Sp.step rfl rfl rfl rfl ?_
                                refine Sp.step rfl rfl rfl (mld rfl rfl (by decide) e94) ?_
                                refine Sp.step rfl rfl rfl rfl ?_
                                refine Sp.if2 rfl rfl rfl rfl (fun e96 => ?_) (fun e96 => ?_)
                                · refine Sp.step rfl rfl rfl rfl ?_
                                  exact Sp.iret rfl rfl rfl rfl (fun _ _ h => h)
                                · refine Sp.step rfl rfl rfl rfl ?_
                                  refine Sp.step rfl rfl rfl (mg_F (f := 6) rfl rfl rfl rfl) ?_
                                  refine Sp.step rfl rfl rfl rfl ?_
                                  refine Sp.step rfl rfl rfl (mld rfl rfl (by decide) e94) ?_
                                  refine Sp.step rfl rfl rfl rfl ?_
                                  refine Sp.if2 rfl rfl rfl rfl (fun e97 => ?_) (fun e97 => ?_)
                                  · refine Sp.step rfl rfl rfl rfl ?_
                                    exact Sp.iret rfl rfl rfl rfl (fun _ _ h => h)
                                  · refine Sp.step rfl rfl rfl rfl ?_
                                    refine Sp.step rfl rfl rfl (mg_F (f := 7) rfl rfl rfl rfl) ?_
                                    refine Sp.step rfl rfl rfl rfl ?_
                                    refine Sp.step rfl rfl rfl (mld rfl rfl (by decide) e94) ?_
                                    refine Sp.step rfl rfl rfl rfl ?_
                                    refine Sp.if2 rfl rfl rfl rfl (fun e98 => ?_) (fun e98 => ?_)
                                    · refine Sp.step rfl rfl rfl rfl ?_
                                      exact Sp.iret rfl rfl rfl rfl (fun _ _ h => h)
                                    · refine Sp.step rfl rfl rfl rfl ?_
                                      refine Sp.step rfl rfl rfl (mg_F (f := 8) rfl rfl rfl rfl) ?_
                                      refine Sp.step rfl rfl rfl rfl ?_
                                      refine Sp.step rfl rfl rfl (mld rfl rfl (by decide) e94) ?_
                                      refine Sp.step rfl rfl rfl rfl ?_
                                      refine Sp.if2 rfl rfl rfl rfl (fun e99 => ?_) (fun e99 => ?_)
                                      · refine Sp.step rfl rfl rfl rfl ?_
                                        refine Sp.step rfl rfl rfl rfl ?_
                                        exact Sp.jmp (l0 := [some (.ref 60), some (.int x), some (.int y), some (.int z), some (.int u), some (.int v), some (.int t), none, some (.int (x91 + 1))]) ⟨rfl, rfl, rfl, rfl, rfl, rfl, rfl, rfl, trivial⟩ (fun _ _ h => h)
                                      · refine Sp.step rfl rfl rfl rfl ?_
                                        exact Sp.iret rfl rfl rfl rfl (fun _ _ h => h)
                        · refine Sp.step rfl rfl rfl rfl ?_
                          refine Sp.step rfl rfl rfl (mg_F (f := 4) rfl rfl rfl rfl) ?_
                          refine Sp.step rfl rfl rfl rfl ?_
                          refine Sp.step rfl rfl rfl (mg_I (f := 15) rfl rfl rfl) ?_
                          refine Sp.step rfl rfl rfl rfl ?_
                          refine Sp.guard (fun e101 => ?_)
                          refine Sp.step rfl rfl rfl (mst rfl rfl (by decide) e101) ?_
                          refine Sp.step rfl rfl rfl rfl ?_
                          refine Sp.step rfl rfl rfl (mg_F (f := 5) rfl rfl rfl rfl) ?_
                          refine Sp.step rfl rfl rfl rfl ?_
                          refine Sp.step rfl rfl rfl (mg_I (f := 15) rfl rfl rfl) ?_
                          refine Sp.step rfl rfl rfl rfl ?_
                          refine Sp.guard (fun e103 => ?_)
                          refine Sp.step rfl rfl rfl (mst rfl rfl (by decide) e103) ?_
                          refine Sp.step rfl rfl rfl rfl ?_
                          refine Sp.step rfl rfl rfl (mg_F (f := 6) rfl rfl rfl rfl) ?_
                          refine Sp.step rfl rfl rfl rfl ?_
                          refine Sp.step rfl rfl rfl (mg_I (f := 15) rfl rfl rfl) ?_
                          refine Sp.step rfl rfl rfl rfl ?_
                          refine Sp.guard (fun e105 => ?_)
                          refine Sp.step rfl rfl rfl (mst rfl rfl (by decide) e105) ?_
                          refine Sp.step rfl rfl rfl rfl ?_
                          refine Sp.step rfl rfl rfl (mg_F (f := 7) rfl rfl rfl rfl) ?_
                          refine Sp.step rfl rfl rfl rfl ?_
                          refine Sp.step rfl rfl rfl (mg_I (f := 15) rfl rfl rfl) ?_
                          refine Sp.step rfl rfl rfl rfl ?_
                          refine Sp.guard (fun e107 => ?_)
                          refine Sp.step rfl rfl rfl (mst rfl rfl (by decide) e107) ?_
                          refine Sp.step rfl rfl rfl rfl ?_
                          refine Sp.step rfl rfl rfl (mg_F (f := 8) rfl rfl rfl rfl) ?_
                          refine Sp.step rfl rfl rfl rfl ?_
                          refine Sp.step rfl rfl rfl (mg_I (f := 15) rfl rfl rfl) ?_
                          refine Sp.step rfl rfl rfl rfl ?_
                          refine Sp.guard (fun e109 => ?_)
                          refine Sp.step rfl rfl rfl (mst rfl rfl (by decide) e109) ?_
                          refine Sp.step rfl rfl rfl rfl ?_
                          refine Sp.step rfl rfl rfl (mg_F (f := 9) rfl rfl rfl rfl) ?_
                          refine Sp.step rfl rfl rfl rfl ?_
                          refine Sp.step rfl rfl rfl (mg_I (f := 15) rfl rfl rfl) ?_
                          refine Sp.step rfl rfl rfl rfl ?_
                          refine Sp.guard (fun e111 => ?_)
                          refine Sp.step rfl rfl rfl (mst rfl rfl (by decide) e111) ?_
                          refine Sp.step rfl rfl rfl rfl ?_
                          refine Sp.step rfl rfl rfl (mg_F (f := 10) rfl rfl rfl rfl) ?_
                          refine Sp.step rfl rfl rfl rfl ?_
                          refine Sp.step rfl rfl rfl (mg_I (f := 15) rfl rfl rfl) ?_
                          refine Sp.step rfl rfl rfl rfl ?_
                          refine Sp.guard (fun e113 => ?_)
                          refine Sp.step rfl rfl rfl (mst rfl rfl (by decide) e113) ?_
                          refine Sp.step rfl rfl rfl rfl ?_
                          refine Sp.step rfl rfl rfl (mg_F (f := 13) rfl rfl rfl rfl) ?_
                          refine Sp.step rfl rfl rfl rfl ?_
                          refine Sp.step rfl rfl rfl (mg_I (f := 15) rfl rfl rfl) ?_
                          refine Sp.step rfl rfl rfl rfl ?_
                          refine Sp.guard (fun e115 => ?_)
                          refine Sp.step rfl rfl rfl (mst rfl rfl (by decide) e115) ?_
                          refine Sp.step rfl rfl rfl rfl ?_
                          refine Sp.step rfl rfl rfl rfl ?_
                          refine Sp.step rfl rfl rfl (mg_I (f := 15) rfl rfl rfl) ?_
                          refine Sp.step rfl rfl rfl rfl ?_
                          refine Sp.step rfl rfl rfl rfl ?_
                          refine Sp.step rfl rfl rfl (mp_I (f := 15) rfl rfl rfl rfl) ?_
                          refine Sp.step rfl rfl rfl rfl ?_
                          refine Sp.step rfl rfl rfl (mg_I (f := 15) rfl rfl rfl) ?_
                          refine Sp.step rfl rfl rfl rfl ?_
                          refine Sp.step rfl rfl rfl rfl ?_
                          exact Sp.iret rfl rfl rfl rfl (fun _ _ h => h)
                      · refine Sp.step rfl rfl rfl rfl ?_
                        exact Sp.iret rfl rfl rfl rfl (fun _ _ h => h)
                    · refine Sp.step rfl rfl rfl rfl ?_
                      refine Sp.step rfl rfl rfl rfl ?_
                      refine Sp.step rfl rfl rfl rfl ?_
                      refine Sp.if2 rfl rfl rfl rfl (fun e118 => ?_) (fun e118 => ?_)
                      · refine Sp.step rfl rfl rfl rfl ?_
                        refine Sp.step rfl rfl rfl rfl ?_
                        refine Sp.weak (l0 := [some (.ref 60), some (.int x), some (.int y), some (.int z), some (.int u), some (.int v), some (.int t), none, some (.int 0)]) ⟨rfl, rfl, rfl, rfl, rfl, rfl, rfl, rfl, trivial⟩ ?_
                        refine Sp.loopY (pe := 197) (mf := (fun (x119 : Int32) => [some (.ref 60), some (.int x), some (.int y), some (.int z), some (.int u), some (.int v), some (.int t), none, some (.int x119)])) (hf := (fun (x119 : Int32) => hS X M)) (fun x119 => ?_) (fun x128 => ?_) _ _
                        · unfold b117_M_method
                          refine Sp.step rfl rfl rfl rfl ?_
                          refine Sp.step rfl rfl rfl rfl ?_
                          refine Sp.step rfl rfl rfl (mg_I (f := 15) rfl rfl rfl) ?_
                          refine Sp.if2 rfl rfl rfl rfl (fun e120 => ?_) (fun e120 => ?_)
                          · exact Sp.jmp (l0 := [some (.ref 60), some (.int x), some (.int y), some (.int z), some (.int u), some (.int v), some (.int t), none, some (.int x119)]) ⟨rfl, rfl, rfl, rfl, rfl, rfl, rfl, rfl, trivial⟩ (fun _ _ h => h)
                          · refine Sp.step rfl rfl rfl rfl ?_
                            refine Sp.step rfl rfl rfl rfl ?_
                            refine Sp.if2 rfl rfl rfl rfl (fun e121 => ?_) (fun e121 => ?_)
                            · refine Sp.step rfl rfl rfl rfl ?_
                              refine Sp.step rfl rfl rfl rfl ?_
                              exact Sp.jmp (l0 := [some (.ref 60), some (.int x), some (.int y), some (.int z), some (.int u), some (.int v), some (.int t), none, some (.int (x119 + 1))]) ⟨rfl, rfl, rfl, rfl, rfl, rfl, rfl, rfl, trivial⟩ (fun _ _ h => h)
                            · refine Sp.step rfl rfl rfl rfl ?_
                              refine Sp.step rfl rfl rfl (mg_F (f := 5) rfl rfl rfl rfl) ?_
                              refine Sp.step rfl rfl rfl rfl ?_
                              refine Sp.guard (fun e122 => ?_)
                              refine Sp.step rfl rfl rfl (mld rfl rfl (by decide) e122) ?_
                              refine Sp.step rfl rfl rfl rfl ?_
                              refine Sp.if2 rfl rfl rfl rfl (fun e123 => ?_) (fun e123 => ?_)
                              · refine Sp.step rfl rfl rfl rfl ?_
                                refine Sp.step rfl rfl rfl rfl ?_
                                exact Sp.jmp (l0 := [some (.ref 60), some (.int x), some (.int y), some (.int z), some (.int u), some (.int v), some (.int t), none, some (.int (x119 + 1))]) ⟨rfl, rfl, rfl, rfl, rfl, rfl, rfl, rfl, trivial⟩ (fun _ _ h => h)
                              · refine Sp.step rfl rfl rfl rfl ?_
                                refine Sp.step rfl rfl rfl (mg_F (f := 4) rfl rfl rfl rfl) ?_
                                refine Sp.step rfl rfl rfl rfl ?_
                                refine Sp.step rfl rfl rfl (mld rfl rfl (by decide) e122) ?_
                                refine Sp.step rfl rfl rfl rfl ?_
                                refine Sp.if2 rfl rfl rfl rfl (fun e124 => ?_) (fun e124 => ?_)
                                · refine Sp.step rfl rfl rfl rfl ?_
                                  exact Sp.iret rfl rfl rfl rfl (fun _ _ h => h)
                                · refine Sp.step rfl rfl rfl rfl ?_
                                  refine Sp.step rfl rfl rfl (mg_F (f := 6) rfl rfl rfl rfl) ?_
                                  refine Sp.step rfl rfl rfl rfl ?_
                                  refine Sp.step rfl rfl rfl (mld rfl rfl (by decide) e122) ?_
                                  refine Sp.step rfl rfl rfl rfl ?_
                                  refine Sp.if2 rfl rfl rfl rfl (fun e125 => ?_) (fun e125 => ?_)
                                  · refine Sp.step rfl rfl rfl rfl ?_
                                    exact Sp.iret rfl rfl rfl rfl (fun _ _ h => h)
                                  · refine Sp.step rfl rfl rfl rfl ?_
                                    refine Sp.step rfl rfl rfl (mg_F (f := 7) rfl rfl rfl rfl) ?_
                                    refine Sp.step rfl rfl rfl rfl ?_
                                    refine Sp.step rfl rfl rfl (mld rfl rfl (by decide) e122) ?_
                                    refine Sp.step rfl rfl rfl rfl ?_
                                    refine Sp.if2 rfl rfl rfl rfl (fun e126 => ?_) (fun e126 => ?_)
                                    · refine Sp.step rfl rfl rfl rfl ?_
                                      exact Sp.iret rfl rfl rfl rfl (fun _ _ h => h)
                                    · refine Sp.step rfl rfl rfl rfl ?_
                                      refine Sp.step rfl rfl rfl (mg_F (f := 8) rfl rfl rfl rfl) ?_
                                      refine Sp.step rfl rfl rfl rfl ?_
                                      refine Sp.step rfl rfl rfl (mld rfl rfl (by decide) e122) ?_
                                      refine Sp.step rfl rfl rfl rfl ?_
                                      refine Sp.if2 rfl rfl rfl rfl (fun e127 => ?_) (fun e127 => ?_)
                                      · refine Sp.step rfl rfl rfl rfl ?_
                                        refine Sp.step rfl rfl rfl rfl ?_
                                        exact Sp.jmp (l0 := [some (.ref 60), some (.int x), some (.int y), some (.int z), some (.int u), some (.int v), some (.int t), none, some (.int (x119 + 1))]) ⟨rfl, rfl, rfl, rfl, rfl, rfl, rfl, rfl, trivial⟩ (fun _ _ h => h)
                                      · refine Sp.step rfl rfl rfl rfl ?_
                                        exact Sp.iret rfl rfl rfl rfl (fun _ _ h => h)
                        · refine Sp.step rfl rfl rfl rfl ?_
                          refine Sp.step rfl rfl rfl (mg_F (f := 4) rfl rfl rfl rfl) ?_
                          refine Sp.step rfl rfl rfl rfl ?_
                          refine Sp.step rfl rfl rfl (mg_I (f := 15) rfl rfl rfl) ?_
                          refine Sp.step rfl rfl rfl rfl ?_
                          refine Sp.guard (fun e129 => ?_)
                          refine Sp.step rfl rfl rfl (mst rfl rfl (by decide) e129) ?_
                          refine Sp.step rfl rfl rfl rfl ?_
                          refine Sp.step rfl rfl rfl (mg_F (f := 5) rfl rfl rfl rfl) ?_
                          refine Sp.step rfl rfl rfl rfl ?_
                          refine Sp.step rfl rfl rfl (mg_I (f := 15) rfl rfl rfl) ?_
                          refine Sp.step rfl rfl rfl rfl ?_
                          refine Sp.guard (fun e131 => ?_)
                          refine Sp.step rfl rfl rfl (mst rfl rfl (by decide) e131) ?_
                          refine Sp.step rfl rfl rfl rfl ?_
                          refine Sp.step rfl rfl rfl (mg_F (f := 6) rfl rfl rfl rfl) ?_
                          refine Sp.step rfl rfl rfl rfl ?_
                          refine Sp.step rfl rfl rfl (mg_I (f := 15) rfl rfl rfl) ?_
                          refine Sp.step rfl rfl rfl rfl ?_
                          refine Sp.guard (fun e133 => ?_)
                          refine Sp.step rfl rfl rfl (mst rfl rfl (by decide) e133) ?_
                          refine Sp.step rfl rfl rfl rfl ?_
                          refine Sp.step rfl rfl rfl (mg_F (f := 7) rfl rfl rfl rfl) ?_
                          refine Sp.step rfl rfl rfl rfl ?_
                          refine Sp.step rfl rfl rfl (mg_I (f := 15) rfl rfl rfl) ?_
                          refine Sp.step rfl rfl rfl rfl ?_
                          refine Sp.guard (fun e135 => ?_)
                          refine Sp.step rfl rfl rfl (mst rfl rfl (by decide) e135) ?_
                          refine Sp.step rfl rfl rfl rfl ?_
                          refine Sp.step rfl rfl rfl (mg_F (f := 8) rfl rfl rfl rfl) ?_
                          refine Sp.step rfl rfl rfl rfl ?_
                          refine Sp.step rfl rfl rfl (mg_I (f := 15) rfl rfl rfl) ?_
                          refine Sp.step rfl rfl rfl rfl ?_
                          refine Sp.guard (fun e137 => ?_)
                          refine Sp.step rfl rfl rfl (mst rfl rfl (by decide) e137) ?_
                          refine Sp.step rfl rfl rfl rfl ?_
                          refine Sp.step rfl rfl rfl (mg_F (f := 9) rfl rfl rfl rfl) ?_
                          refine Sp.step rfl rfl rfl rfl ?_
                          refine Sp.step rfl rfl rfl (mg_I (f := 15) rfl rfl rfl) ?_
                          refine Sp.step rfl rfl rfl rfl ?_
                          refine Sp.guard (fun e139 => ?_)
                          refine Sp.step rfl rfl rfl (mst rfl rfl (by decide) e139) ?_
                          refine Sp.step rfl rfl rfl rfl ?_
                          refine Sp.step rfl rfl rfl (mg_F (f := 10) rfl rfl rfl rfl) ?_
                          refine Sp.step rfl rfl rfl rfl ?_
                          refine Sp.step rfl rfl rfl (mg_I (f := 15) rfl rfl rfl) ?_
                          refine Sp.step rfl rfl rfl rfl ?_
                          refine Sp.guard (fun e141 => ?_)
                          refine Sp.step rfl rfl rfl (mst rfl rfl (by decide) e141) ?_
                          refine Sp.step rfl rfl rfl rfl ?_
                          refine Sp.step rfl rfl rfl (mg_F (f := 13) rfl rfl rfl rfl) ?_
                          refine Sp.step rfl rfl rfl rfl ?_
                          refine Sp.step rfl rfl rfl (mg_I (f := 15) rfl rfl rfl) ?_
                          refine Sp.step rfl rfl rfl rfl ?_
                          refine Sp.guard (fun e143 => ?_)
                          refine Sp.step rfl rfl rfl (mst rfl rfl (by decide) e143) ?_
                          refine Sp.step rfl rfl rfl rfl ?_
                          refine Sp.step rfl rfl rfl rfl ?_
                          refine Sp.step rfl rfl rfl (mg_I (f := 15) rfl rfl rfl) ?_
                          refine Sp.step rfl rfl rfl rfl ?_
                          refine Sp.step rfl rfl rfl rfl ?_
                          refine Sp.step rfl rfl rfl (mp_I (f := 15) rfl rfl rfl rfl) ?_
                          refine Sp.step rfl rfl rfl rfl ?_
                          refine Sp.step rfl rfl rfl (mg_I (f := 15) rfl rfl rfl) ?_
                          refine Sp.step rfl rfl rfl rfl ?_
                          refine Sp.step rfl rfl rfl rfl ?_
                          exact Sp.iret rfl rfl rfl rfl (fun _ _ h => h)
                      · refine Sp.step rfl rfl rfl rfl ?_
                        exact Sp.iret rfl rfl rfl rfl (fun _ _ h => h)
            · refine Sp.step rfl rfl rfl rfl ?_
              refine Sp.step rfl rfl rfl rfl ?_
              refine Sp.step rfl rfl rfl rfl ?_
              refine Sp.step rfl rfl rfl rfl ?_
              refine Sp.step rfl rfl rfl rfl ?_
              refine Sp.step rfl rfl rfl rfl ?_
              exact Sp.iret rfl rfl rfl rfl (fun _ _ h => h)
          · refine Sp.step rfl rfl rfl rfl ?_
            refine Sp.step rfl rfl rfl rfl ?_
            refine Sp.step rfl rfl rfl rfl ?_
            refine Sp.step rfl rfl rfl rfl ?_
            refine Sp.step rfl rfl rfl rfl ?_
            refine Sp.step rfl rfl rfl rfl ?_
            exact Sp.iret rfl rfl rfl rfl (fun _ _ h => h)
        · refine Sp.step rfl rfl rfl rfl ?_
          refine Sp.step rfl rfl rfl rfl ?_
          refine Sp.step rfl rfl rfl rfl ?_
          refine Sp.step rfl rfl rfl rfl ?_
          refine Sp.step rfl rfl rfl rfl ?_
          refine Sp.step rfl rfl rfl rfl ?_
          exact Sp.iret rfl rfl rfl rfl (fun _ _ h => h)
      · refine Sp.step rfl rfl rfl rfl ?_
        refine Sp.step rfl rfl rfl rfl ?_
        refine Sp.step rfl rfl rfl rfl ?_
        refine Sp.step rfl rfl rfl rfl ?_
        refine Sp.step rfl rfl rfl rfl ?_
        refine Sp.step rfl rfl rfl rfl ?_
        exact Sp.iret rfl rfl rfl rfl (fun _ _ h => h)
  · refine Sp.step rfl rfl rfl rfl ?_
    refine Sp.step rfl rfl rfl rfl ?_
    refine Sp.step rfl rfl rfl rfl ?_
    refine Sp.step rfl rfl rfl rfl ?_
    refine Sp.step rfl rfl rfl rfl ?_
    refine Sp.step rfl rfl rfl rfl ?_
    exact Sp.iret rfl rfl rfl rfl (fun _ _ h => h)
def f_M_code (x : Int32) (y : Int32) (M : MS) : Option (Int32 × MS) := (if M.1 60 15 = 0 then some ((-1), M) else (if 0 ≤ x ∧ x ≤ 55 then (if ixo ((M.1 60 15) - 1) 24 then (if ¬ M.1 70 ((M.1 60 15) - 1).toNatClampNeg = 60 then (if ixo ((60 * ((M.1 60 15) - 1)) + (M.1 70 ((M.1 60 15) - 1).toNatClampNeg)) 1440 then (lt (mw M 71 ((60 * ((M.1 60 15) - 1)) + (M.1 70 ((M.1 60 15) - 1).toNatClampNeg)).toNatClampNeg x) fun M7 => (lt (mw M7 72 ((60 * ((M.1 60 15) - 1)) + (M.1 70 ((M.1 60 15) - 1).toNatClampNeg)).toNatClampNeg y) fun M8 => (if ixo ((M8.1 60 15) - 1) 24 then (lt (mw M8 70 ((M8.1 60 15) - 1).toNatClampNeg ((M8.1 70 ((M8.1 60 15) - 1).toNatClampNeg) + 1)) fun M10 => (if ixo ((M10.1 60 15) - 1) 24 then some ((M10.1 70 ((M10.1 60 15) - 1).toNatClampNeg) - 1, M10) else none)) else none))) else none) else some ((-1), M)) else none) else some ((-1), M)))
set_option maxRecDepth 100000 in
set_option maxHeartbeats 4000000 in
theorem s_M_code {L : Nat} {xs : Nat → Int32} {X : XS} {M : MS} {x : Int32} {y : Int32} : Sp (mjOO L xs) 24 0 [some (.ref 60), some (.int x), some (.int y), none] [] (hS X M) (f_M_code x y M) (KEM X) := by
  unfold f_M_code
  refine Sp.step rfl rfl rfl rfl ?_
  refine Sp.step rfl rfl rfl (mg_I (f := 15) rfl rfl rfl) ?_
  refine Sp.if1 rfl rfl rfl rfl (fun e1 => ?_) (fun e1 => ?_)
  · refine Sp.step rfl rfl rfl rfl ?_
    exact Sp.iret rfl rfl rfl rfl (fun _ _ h => h)
  · refine Sp.step rfl rfl rfl rfl ?_
    refine Sp.step rfl rfl rfl rfl ?_
    refine Sp.step rfl rfl rfl rfl ?_
    refine Sp.callP rfl rfl rfl rfl s_isIn (fun e2 => ?_) (fun e2 => ?_)
    · refine Sp.step rfl rfl rfl rfl ?_
      refine Sp.step rfl rfl rfl rfl ?_
      refine Sp.step rfl rfl rfl (mg_F (f := 10) rfl rfl rfl rfl) ?_
      refine Sp.step rfl rfl rfl rfl ?_
      refine Sp.step rfl rfl rfl (mg_I (f := 15) rfl rfl rfl) ?_
      refine Sp.step rfl rfl rfl rfl ?_
      refine Sp.step rfl rfl rfl rfl ?_
      refine Sp.guard (fun e4 => ?_)
      refine Sp.step rfl rfl rfl (mld rfl rfl (by decide) e4) ?_
      refine Sp.step rfl rfl rfl rfl ?_
      refine Sp.if2 rfl rfl rfl rfl (fun e5 => ?_) (fun e5 => ?_)
      · refine Sp.step rfl rfl rfl rfl ?_
        refine Sp.step rfl rfl rfl rfl ?_
        refine Sp.step rfl rfl rfl (mg_I (f := 15) rfl rfl rfl) ?_
        refine Sp.step rfl rfl rfl rfl ?_
        refine Sp.step rfl rfl rfl rfl ?_
        refine Sp.step rfl rfl rfl rfl ?_
        refine Sp.step rfl rfl rfl rfl ?_
        refine Sp.step rfl rfl rfl (mg_F (f := 10) rfl rfl rfl rfl) ?_
        refine Sp.step rfl rfl rfl rfl ?_
        refine Sp.step rfl rfl rfl (mg_I (f := 15) rfl rfl rfl) ?_
        refine Sp.step rfl rfl rfl rfl ?_
        refine Sp.step rfl rfl rfl rfl ?_
        refine Sp.step rfl rfl rfl (mld rfl rfl (by decide) e4) ?_
        refine Sp.step rfl rfl rfl rfl ?_
        refine Sp.step rfl rfl rfl rfl ?_
        refine Sp.step rfl rfl rfl rfl ?_
        refine Sp.step rfl rfl rfl (mg_F (f := 11) rfl rfl rfl rfl) ?_
        refine Sp.step rfl rfl rfl rfl ?_
        refine Sp.step rfl rfl rfl rfl ?_
        refine Sp.guard (fun e6 => ?_)
        refine Sp.step rfl rfl rfl (mst rfl rfl (by decide) e6) ?_
        refine Sp.step rfl rfl rfl rfl ?_
        refine Sp.step rfl rfl rfl (mg_F (f := 12) rfl rfl rfl rfl) ?_
        refine Sp.step rfl rfl rfl rfl ?_
        refine Sp.step rfl rfl rfl rfl ?_
        refine Sp.step rfl rfl rfl (mst rfl rfl (by decide) e6) ?_
        refine Sp.step rfl rfl rfl rfl ?_
        refine Sp.step rfl rfl rfl (mg_F (f := 10) rfl rfl rfl rfl) ?_
        refine Sp.step rfl rfl rfl rfl ?_
        refine Sp.step rfl rfl rfl (mg_I (f := 15) rfl rfl rfl) ?_
        refine Sp.step rfl rfl rfl rfl ?_
        refine Sp.step rfl rfl rfl rfl ?_
        refine Sp.step rfl rfl rfl rfl ?_
        refine Sp.guard (fun e9 => ?_)
        refine Sp.step rfl rfl rfl (mld rfl rfl (by decide) e9) ?_
        refine Sp.step rfl rfl rfl rfl ?_
        refine Sp.step rfl rfl rfl rfl ?_
        refine Sp.step rfl rfl rfl (mst rfl rfl (by decide) e9) ?_
        refine Sp.step rfl rfl rfl rfl ?_
        refine Sp.step rfl rfl rfl (mg_F (f := 10) rfl rfl rfl rfl) ?_
        refine Sp.step rfl rfl rfl rfl ?_
        refine Sp.step rfl rfl rfl (mg_I (f := 15) rfl rfl rfl) ?_
        refine Sp.step rfl rfl rfl rfl ?_
        refine Sp.step rfl rfl rfl rfl ?_
        refine Sp.guard (fun e11 => ?_)
        refine Sp.step rfl rfl rfl (mld rfl rfl (by decide) e11) ?_
        refine Sp.step rfl rfl rfl rfl ?_
        refine Sp.step rfl rfl rfl rfl ?_
        exact Sp.iret rfl rfl rfl rfl (fun _ _ h => h)
      · refine Sp.step rfl rfl rfl rfl ?_
        exact Sp.iret rfl rfl rfl rfl (fun _ _ h => h)
    · refine Sp.step rfl rfl rfl rfl ?_
      refine Sp.step rfl rfl rfl rfl ?_
      exact Sp.iret rfl rfl rfl rfl (fun _ _ h => h)
def f_M_trap (x : Int32) (y : Int32) (z : Int32) (u : Int32) (M : MS) : Option (Int32 × MS) := (if M.1 60 15 = 0 then some ((-1), M) else (if ixo ((M.1 60 15) - 1) 24 then (if ¬ M.1 73 ((M.1 60 15) - 1).toNatClampNeg = 6 then (if ixo ((24 * ((M.1 60 15) - 1)) + (4 * (M.1 73 ((M.1 60 15) - 1).toNatClampNeg))) 576 then (lt (mw M 74 ((24 * ((M.1 60 15) - 1)) + (4 * (M.1 73 ((M.1 60 15) - 1).toNatClampNeg))).toNatClampNeg x) fun M5 => (if ixo (((24 * ((M.1 60 15) - 1)) + (4 * (M.1 73 ((M.1 60 15) - 1).toNatClampNeg))) + 1) 576 then (lt (mw M5 74 (((24 * ((M.1 60 15) - 1)) + (4 * (M.1 73 ((M.1 60 15) - 1).toNatClampNeg))) + 1).toNatClampNeg y) fun M7 => (if ixo (((24 * ((M.1 60 15) - 1)) + (4 * (M.1 73 ((M.1 60 15) - 1).toNatClampNeg))) + 2) 576 then (lt (mw M7 74 (((24 * ((M.1 60 15) - 1)) + (4 * (M.1 73 ((M.1 60 15) - 1).toNatClampNeg))) + 2).toNatClampNeg z) fun M9 => (if ixo (((24 * ((M.1 60 15) - 1)) + (4 * (M.1 73 ((M.1 60 15) - 1).toNatClampNeg))) + 3) 576 then (lt (mw M9 74 (((24 * ((M.1 60 15) - 1)) + (4 * (M.1 73 ((M.1 60 15) - 1).toNatClampNeg))) + 3).toNatClampNeg u) fun M11 => (if ixo ((M11.1 60 15) - 1) 24 then (lt (mw M11 73 ((M11.1 60 15) - 1).toNatClampNeg ((M11.1 73 ((M11.1 60 15) - 1).toNatClampNeg) + 1)) fun M13 => (if ixo ((M13.1 60 15) - 1) 24 then some (M13.1 73 ((M13.1 60 15) - 1).toNatClampNeg, M13) else none)) else none)) else none)) else none)) else none)) else none) else some ((-1), M)) else none))
set_option maxRecDepth 100000 in
set_option maxHeartbeats 4000000 in
theorem s_M_trap {L : Nat} {xs : Nat → Int32} {X : XS} {M : MS} {x : Int32} {y : Int32} {z : Int32} {u : Int32} : Sp (mjOO L xs) 25 0 [some (.ref 60), some (.int x), some (.int y), some (.int z), some (.int u), none] [] (hS X M) (f_M_trap x y z u M) (KEM X) := by
  unfold f_M_trap
  refine Sp.step rfl rfl rfl rfl ?_
  refine Sp.step rfl rfl rfl (mg_I (f := 15) rfl rfl rfl) ?_
  refine Sp.if1 rfl rfl rfl rfl (fun e1 => ?_) (fun e1 => ?_)
  · refine Sp.step rfl rfl rfl rfl ?_
    exact Sp.iret rfl rfl rfl rfl (fun _ _ h => h)
  · refine Sp.step rfl rfl rfl rfl ?_
    refine Sp.step rfl rfl rfl (mg_F (f := 13) rfl rfl rfl rfl) ?_
    refine Sp.step rfl rfl rfl rfl ?_
    refine Sp.step rfl rfl rfl (mg_I (f := 15) rfl rfl rfl) ?_
    refine Sp.step rfl rfl rfl rfl ?_
    refine Sp.step rfl rfl rfl rfl ?_
    refine Sp.guard (fun e2 => ?_)
    refine Sp.step rfl rfl rfl (mld rfl rfl (by decide) e2) ?_
    refine Sp.step rfl rfl rfl rfl ?_
    refine Sp.if2 rfl rfl rfl rfl (fun e3 => ?_) (fun e3 => ?_)
    · refine Sp.step rfl rfl rfl rfl ?_
      refine Sp.step rfl rfl rfl rfl ?_
      refine Sp.step rfl rfl rfl (mg_I (f := 15) rfl rfl rfl) ?_
      refine Sp.step rfl rfl rfl rfl ?_
      refine Sp.step rfl rfl rfl rfl ?_
      refine Sp.step rfl rfl rfl rfl ?_
      refine Sp.step rfl rfl rfl rfl ?_
      refine Sp.step rfl rfl rfl rfl ?_
      refine Sp.step rfl rfl rfl (mg_F (f := 13) rfl rfl rfl rfl) ?_
      refine Sp.step rfl rfl rfl rfl ?_
      refine Sp.step rfl rfl rfl (mg_I (f := 15) rfl rfl rfl) ?_
      refine Sp.step rfl rfl rfl rfl ?_
      refine Sp.step rfl rfl rfl rfl ?_
      refine Sp.step rfl rfl rfl (mld rfl rfl (by decide) e2) ?_
      refine Sp.step rfl rfl rfl rfl ?_
      refine Sp.step rfl rfl rfl rfl ?_
      refine Sp.step rfl rfl rfl rfl ?_
      refine Sp.step rfl rfl rfl rfl ?_
      refine Sp.step rfl rfl rfl (mg_F (f := 14) rfl rfl rfl rfl) ?_
      refine Sp.step rfl rfl rfl rfl ?_
      refine Sp.step rfl rfl rfl rfl ?_
      refine Sp.guard (fun e4 => ?_)
      refine Sp.step rfl rfl rfl (mst rfl rfl (by decide) e4) ?_
      refine Sp.step rfl rfl rfl rfl ?_
      refine Sp.step rfl rfl rfl (mg_F (f := 14) rfl rfl rfl rfl) ?_
      refine Sp.step rfl rfl rfl rfl ?_
      refine Sp.step rfl rfl rfl rfl ?_
      refine Sp.step rfl rfl rfl rfl ?_
      refine Sp.step rfl rfl rfl rfl ?_
      refine Sp.guard (fun e6 => ?_)
      refine Sp.step rfl rfl rfl (mst rfl rfl (by decide) e6) ?_
      refine Sp.step rfl rfl rfl rfl ?_
      refine Sp.step rfl rfl rfl (mg_F (f := 14) rfl rfl rfl rfl) ?_
      refine Sp.step rfl rfl rfl rfl ?_
      refine Sp.step rfl rfl rfl rfl ?_
      refine Sp.step rfl rfl rfl rfl ?_
      refine Sp.step rfl rfl rfl rfl ?_
      refine Sp.guard (fun e8 => ?_)
      refine Sp.step rfl rfl rfl (mst rfl rfl (by decide) e8) ?_
      refine Sp.step rfl rfl rfl rfl ?_
      refine Sp.step rfl rfl rfl (mg_F (f := 14) rfl rfl rfl rfl) ?_
      refine Sp.step rfl rfl rfl rfl ?_
      refine Sp.step rfl rfl rfl rfl ?_
      refine Sp.step rfl rfl rfl rfl ?_
      refine Sp.step rfl rfl rfl rfl ?_
      refine Sp.guard (fun e10 => ?_)
      refine Sp.step rfl rfl rfl (mst rfl rfl (by decide) e10) ?_
      refine Sp.step rfl rfl rfl rfl ?_
      refine Sp.step rfl rfl rfl (mg_F (f := 13) rfl rfl rfl rfl) ?_
      refine Sp.step rfl rfl rfl rfl ?_
      refine Sp.step rfl rfl rfl (mg_I (f := 15) rfl rfl rfl) ?_
      refine Sp.step rfl rfl rfl rfl ?_
      refine Sp.step rfl rfl rfl rfl ?_
      refine Sp.step rfl rfl rfl rfl ?_
      refine Sp.guard (fun e12 => ?_)
      refine Sp.step rfl rfl rfl (mld rfl rfl (by decide) e12) ?_
      refine Sp.step rfl rfl rfl rfl ?_
      refine Sp.step rfl rfl rfl rfl ?_
      refine Sp.step rfl rfl rfl (mst rfl rfl (by decide) e12) ?_
      refine Sp.step rfl rfl rfl rfl ?_
      refine Sp.step rfl rfl rfl (mg_F (f := 13) rfl rfl rfl rfl) ?_
      refine Sp.step rfl rfl rfl rfl ?_
      refine Sp.step rfl rfl rfl (mg_I (f := 15) rfl rfl rfl) ?_
      refine Sp.step rfl rfl rfl rfl ?_
      refine Sp.step rfl rfl rfl rfl ?_
      refine Sp.guard (fun e14 => ?_)
      refine Sp.step rfl rfl rfl (mld rfl rfl (by decide) e14) ?_
      exact Sp.iret rfl rfl rfl rfl (fun _ _ h => h)
    · refine Sp.step rfl rfl rfl rfl ?_
      exact Sp.iret rfl rfl rfl rfl (fun _ _ h => h)
def f_M_isStatic (x : Int32) (M : MS) : Option Bool := (if 0 ≤ x ∧ x ≤ (M.1 60 15) - 1 then (if ixo x 24 then (if ¬ M.1 65 x.toNatClampNeg = (-2) then some false else some true) else none) else some false)
set_option maxRecDepth 100000 in
set_option maxHeartbeats 4000000 in
theorem s_M_isStatic {L : Nat} {xs : Nat → Int32} {X : XS} {M : MS} {x : Int32} : Sp (mjOO L xs) 28 0 [some (.ref 60), some (.int x)] [] (hS X M) (f_M_isStatic x M) (KB (hS X M)) := by
  unfold f_M_isStatic
  refine Sp.step rfl rfl rfl rfl ?_
  refine Sp.step rfl rfl rfl rfl ?_
  refine Sp.step rfl rfl rfl rfl ?_
  refine Sp.step rfl rfl rfl (mg_I (f := 15) rfl rfl rfl) ?_
  refine Sp.step rfl rfl rfl rfl ?_
  refine Sp.step rfl rfl rfl rfl ?_
  refine Sp.callP rfl rfl rfl rfl s_isIn (fun e1 => ?_) (fun e1 => ?_)
  · refine Sp.step rfl rfl rfl rfl ?_
    refine Sp.step rfl rfl rfl rfl ?_
    refine Sp.step rfl rfl rfl (mg_F (f := 5) rfl rfl rfl rfl) ?_
    refine Sp.step rfl rfl rfl rfl ?_
    refine Sp.guard (fun e3 => ?_)
    refine Sp.step rfl rfl rfl (mld rfl rfl (by decide) e3) ?_
    refine Sp.step rfl rfl rfl rfl ?_
    refine Sp.if2 rfl rfl rfl rfl (fun e4 => ?_) (fun e4 => ?_)
    · refine Sp.step rfl rfl rfl rfl ?_
      exact Sp.iret rfl rfl rfl rfl (fun _ _ h => h)
    · refine Sp.step rfl rfl rfl rfl ?_
      refine Sp.step rfl rfl rfl rfl ?_
      exact Sp.iret rfl rfl rfl rfl (fun _ _ h => h)
  · refine Sp.step rfl rfl rfl rfl ?_
    refine Sp.step rfl rfl rfl rfl ?_
    exact Sp.iret rfl rfl rfl rfl (fun _ _ h => h)
def f_M_isClass (x : Int32) (M : MS) : Bool := (if 0 ≤ x ∧ x ≤ (M.1 60 3) - 1 then true else false)
set_option maxRecDepth 100000 in
set_option maxHeartbeats 4000000 in
theorem s_M_isClass {L : Nat} {xs : Nat → Int32} {X : XS} {M : MS} {x : Int32} : Sp (mjOO L xs) 27 0 [some (.ref 60), some (.int x)] [] (hS X M) (some (f_M_isClass x M)) (KB (hS X M)) := by
  unfold f_M_isClass
  refine Sp.step rfl rfl rfl rfl ?_
  refine Sp.step rfl rfl rfl rfl ?_
  refine Sp.step rfl rfl rfl rfl ?_
  refine Sp.step rfl rfl rfl (mg_I (f := 3) rfl rfl rfl) ?_
  refine Sp.step rfl rfl rfl rfl ?_
  refine Sp.step rfl rfl rfl rfl ?_
  refine Sp.callPV rfl rfl rfl rfl s_isIn (fun e1 => ?_) (fun e1 => ?_)
  · exact Sp.iret rfl rfl rfl rfl (fun _ _ h => h)
  · exact Sp.iret rfl rfl rfl rfl (fun _ _ h => h)
def b4_M_follow (x : Int32) (x205 : (Int32 × Int32 × MS)) : Option ((Int32 × Int32 × MS) ⊕ (Int32 × Int32 × MS)) := (if ixo x 24 then (if x205.2.2.1 70 x.toNatClampNeg ≤ x205.2.1 then some (.inr (x205.1, x205.2.1, x205.2.2)) else (if ixo ((60 * x) + x205.2.1) 1440 then (if ¬ x205.2.2.1 71 ((60 * x) + x205.2.1).toNatClampNeg = 38 then (if ¬ x205.2.2.1 71 ((60 * x) + x205.2.1).toNatClampNeg = 39 then (if ¬ x205.2.2.1 71 ((60 * x) + x205.2.1).toNatClampNeg = 48 then (if ¬ x205.2.2.1 71 ((60 * x) + x205.2.1).toNatClampNeg = 26 then some (.inl (x205.1, x205.2.1 + 1, x205.2.2)) else (if f_M_isClass (x205.2.2.1 72 ((60 * x) + x205.2.1).toNatClampNeg) x205.2.2 = true then (if ixo (x205.2.2.1 72 ((60 * x) + x205.2.1).toNatClampNeg) 10 then (if ¬ x205.2.2.1 76 (x205.2.2.1 72 ((60 * x) + x205.2.1).toNatClampNeg).toNatClampNeg = 0 then some (.inl (x205.1, x205.2.1 + 1, x205.2.2)) else (lt (mw x205.2.2 76 (x205.2.2.1 72 ((60 * x) + x205.2.1).toNatClampNeg).toNatClampNeg 1) fun M217 => some (.inl (1, x205.2.1 + 1, M217)))) else none) else some (.inl (x205.1, x205.2.1 + 1, x205.2.2)))) else (((if ¬ x205.2.2.1 71 ((60 * x) + x205.2.1).toNatClampNeg = 48 then some (x205.2.2.1 72 ((60 * x) + x205.2.1).toNatClampNeg) else some 0) : Option (Int32)).bind fun x220 => (if ixo x220 8 then (if ¬ x205.2.2.1 78 x220.toNatClampNeg = 0 then (if ¬ x205.2.2.1 71 ((60 * x) + x205.2.1).toNatClampNeg = 26 then some (.inl (x205.1, x205.2.1 + 1, x205.2.2)) else (if f_M_isClass (x205.2.2.1 72 ((60 * x) + x205.2.1).toNatClampNeg) x205.2.2 = true then (if ixo (x205.2.2.1 72 ((60 * x) + x205.2.1).toNatClampNeg) 10 then (if ¬ x205.2.2.1 76 (x205.2.2.1 72 ((60 * x) + x205.2.1).toNatClampNeg).toNatClampNeg = 0 then some (.inl (x205.1, x205.2.1 + 1, x205.2.2)) else (lt (mw x205.2.2 76 (x205.2.2.1 72 ((60 * x) + x205.2.1).toNatClampNeg).toNatClampNeg 1) fun M228 => some (.inl (1, x205.2.1 + 1, M228)))) else none) else some (.inl (x205.1, x205.2.1 + 1, x205.2.2)))) else (if ¬ x205.2.2.1 71 ((60 * x) + x205.2.1).toNatClampNeg = 48 then (if ixo (x205.2.2.1 72 ((60 * x) + x205.2.1).toNatClampNeg) 8 then (lt (mw x205.2.2 78 (x205.2.2.1 72 ((60 * x) + x205.2.1).toNatClampNeg).toNatClampNeg 1) fun M232 => some (.inl (1, x205.2.1 + 1, M232))) else none) else (lt (mw x205.2.2 78 0 1) fun M233 => some (.inl (1, x205.2.1 + 1, M233))))) else none))) else (if 0 ≤ x205.2.2.1 72 ((60 * x) + x205.2.1).toNatClampNeg ∧ x205.2.2.1 72 ((60 * x) + x205.2.1).toNatClampNeg ≤ 7 then (((if ¬ x205.2.2.1 71 ((60 * x) + x205.2.1).toNatClampNeg = 48 then some (x205.2.2.1 72 ((60 * x) + x205.2.1).toNatClampNeg) else some 0) : Option (Int32)).bind fun x237 => (if ixo x237 8 then (if ¬ x205.2.2.1 78 x237.toNatClampNeg = 0 then (if ¬ x205.2.2.1 71 ((60 * x) + x205.2.1).toNatClampNeg = 26 then some (.inl (x205.1, x205.2.1 + 1, x205.2.2)) else (if f_M_isClass (x205.2.2.1 72 ((60 * x) + x205.2.1).toNatClampNeg) x205.2.2 = true then (if ixo (x205.2.2.1 72 ((60 * x) + x205.2.1).toNatClampNeg) 10 then (if ¬ x205.2.2.1 76 (x205.2.2.1 72 ((60 * x) + x205.2.1).toNatClampNeg).toNatClampNeg = 0 then some (.inl (x205.1, x205.2.1 + 1, x205.2.2)) else (lt (mw x205.2.2 76 (x205.2.2.1 72 ((60 * x) + x205.2.1).toNatClampNeg).toNatClampNeg 1) fun M245 => some (.inl (1, x205.2.1 + 1, M245)))) else none) else some (.inl (x205.1, x205.2.1 + 1, x205.2.2)))) else (if ¬ x205.2.2.1 71 ((60 * x) + x205.2.1).toNatClampNeg = 48 then (lt (mw x205.2.2 78 (x205.2.2.1 72 ((60 * x) + x205.2.1).toNatClampNeg).toNatClampNeg 1) fun M248 => some (.inl (1, x205.2.1 + 1, M248))) else (lt (mw x205.2.2 78 0 1) fun M249 => some (.inl (1, x205.2.1 + 1, M249))))) else none)) else (if ¬ x205.2.2.1 71 ((60 * x) + x205.2.1).toNatClampNeg = 48 then (if ¬ x205.2.2.1 71 ((60 * x) + x205.2.1).toNatClampNeg = 26 then some (.inl (x205.1, x205.2.1 + 1, x205.2.2)) else (if f_M_isClass (x205.2.2.1 72 ((60 * x) + x205.2.1).toNatClampNeg) x205.2.2 = true then (if ixo (x205.2.2.1 72 ((60 * x) + x205.2.1).toNatClampNeg) 10 then (if ¬ x205.2.2.1 76 (x205.2.2.1 72 ((60 * x) + x205.2.1).toNatClampNeg).toNatClampNeg = 0 then some (.inl (x205.1, x205.2.1 + 1, x205.2.2)) else (lt (mw x205.2.2 76 (x205.2.2.1 72 ((60 * x) + x205.2.1).toNatClampNeg).toNatClampNeg 1) fun M257 => some (.inl (1, x205.2.1 + 1, M257)))) else none) else some (.inl (x205.1, x205.2.1 + 1, x205.2.2)))) else (((if ¬ x205.2.2.1 71 ((60 * x) + x205.2.1).toNatClampNeg = 48 then some (x205.2.2.1 72 ((60 * x) + x205.2.1).toNatClampNeg) else some 0) : Option (Int32)).bind fun x260 => (if ixo x260 8 then (if ¬ x205.2.2.1 78 x260.toNatClampNeg = 0 then (if ¬ x205.2.2.1 71 ((60 * x) + x205.2.1).toNatClampNeg = 26 then some (.inl (x205.1, x205.2.1 + 1, x205.2.2)) else (if f_M_isClass (x205.2.2.1 72 ((60 * x) + x205.2.1).toNatClampNeg) x205.2.2 = true then (if ixo (x205.2.2.1 72 ((60 * x) + x205.2.1).toNatClampNeg) 10 then (if ¬ x205.2.2.1 76 (x205.2.2.1 72 ((60 * x) + x205.2.1).toNatClampNeg).toNatClampNeg = 0 then some (.inl (x205.1, x205.2.1 + 1, x205.2.2)) else (lt (mw x205.2.2 76 (x205.2.2.1 72 ((60 * x) + x205.2.1).toNatClampNeg).toNatClampNeg 1) fun M268 => some (.inl (1, x205.2.1 + 1, M268)))) else none) else some (.inl (x205.1, x205.2.1 + 1, x205.2.2)))) else (if ¬ x205.2.2.1 71 ((60 * x) + x205.2.1).toNatClampNeg = 48 then (if ixo (x205.2.2.1 72 ((60 * x) + x205.2.1).toNatClampNeg) 8 then (lt (mw x205.2.2 78 (x205.2.2.1 72 ((60 * x) + x205.2.1).toNatClampNeg).toNatClampNeg 1) fun M272 => some (.inl (1, x205.2.1 + 1, M272))) else none) else (lt (mw x205.2.2 78 0 1) fun M273 => some (.inl (1, x205.2.1 + 1, M273))))) else none))))) else ((f_M_isStatic (x205.2.2.1 72 ((60 * x) + x205.2.1).toNatClampNeg) x205.2.2).bind fun x274 => (if x274 = true then (if ixo (x205.2.2.1 72 ((60 * x) + x205.2.1).toNatClampNeg) 24 then (if ¬ x205.2.2.1 75 (x205.2.2.1 72 ((60 * x) + x205.2.1).toNatClampNeg).toNatClampNeg = 0 then (if ¬ x205.2.2.1 71 ((60 * x) + x205.2.1).toNatClampNeg = 39 then (if ¬ x205.2.2.1 71 ((60 * x) + x205.2.1).toNatClampNeg = 48 then (if ¬ x205.2.2.1 71 ((60 * x) + x205.2.1).toNatClampNeg = 26 then some (.inl (x205.1, x205.2.1 + 1, x205.2.2)) else (if f_M_isClass (x205.2.2.1 72 ((60 * x) + x205.2.1).toNatClampNeg) x205.2.2 = true then (if ixo (x205.2.2.1 72 ((60 * x) + x205.2.1).toNatClampNeg) 10 then (if ¬ x205.2.2.1 76 (x205.2.2.1 72 ((60 * x) + x205.2.1).toNatClampNeg).toNatClampNeg = 0 then some (.inl (x205.1, x205.2.1 + 1, x205.2.2)) else (lt (mw x205.2.2 76 (x205.2.2.1 72 ((60 * x) + x205.2.1).toNatClampNeg).toNatClampNeg 1) fun M286 => some (.inl (1, x205.2.1 + 1, M286)))) else none) else some (.inl (x205.1, x205.2.1 + 1, x205.2.2)))) else (((if ¬ x205.2.2.1 71 ((60 * x) + x205.2.1).toNatClampNeg = 48 then some (x205.2.2.1 72 ((60 * x) + x205.2.1).toNatClampNeg) else some 0) : Option (Int32)).bind fun x289 => (if ixo x289 8 then (if ¬ x205.2.2.1 78 x289.toNatClampNeg = 0 then (if ¬ x205.2.2.1 71 ((60 * x) + x205.2.1).toNatClampNeg = 26 then some (.inl (x205.1, x205.2.1 + 1, x205.2.2)) else (if f_M_isClass (x205.2.2.1 72 ((60 * x) + x205.2.1).toNatClampNeg) x205.2.2 = true then (if ixo (x205.2.2.1 72 ((60 * x) + x205.2.1).toNatClampNeg) 10 then (if ¬ x205.2.2.1 76 (x205.2.2.1 72 ((60 * x) + x205.2.1).toNatClampNeg).toNatClampNeg = 0 then some (.inl (x205.1, x205.2.1 + 1, x205.2.2)) else (lt (mw x205.2.2 76 (x205.2.2.1 72 ((60 * x) + x205.2.1).toNatClampNeg).toNatClampNeg 1) fun M297 => some (.inl (1, x205.2.1 + 1, M297)))) else none) else some (.inl (x205.1, x205.2.1 + 1, x205.2.2)))) else (if ¬ x205.2.2.1 71 ((60 * x) + x205.2.1).toNatClampNeg = 48 then (if ixo (x205.2.2.1 72 ((60 * x) + x205.2.1).toNatClampNeg) 8 then (lt (mw x205.2.2 78 (x205.2.2.1 72 ((60 * x) + x205.2.1).toNatClampNeg).toNatClampNeg 1) fun M301 => some (.inl (1, x205.2.1 + 1, M301))) else none) else (lt (mw x205.2.2 78 0 1) fun M302 => some (.inl (1, x205.2.1 + 1, M302))))) else none))) else (if 0 ≤ x205.2.2.1 72 ((60 * x) + x205.2.1).toNatClampNeg ∧ x205.2.2.1 72 ((60 * x) + x205.2.1).toNatClampNeg ≤ 7 then (((if ¬ x205.2.2.1 71 ((60 * x) + x205.2.1).toNatClampNeg = 48 then some (x205.2.2.1 72 ((60 * x) + x205.2.1).toNatClampNeg) else some 0) : Option (Int32)).bind fun x306 => (if ixo x306 8 then (if ¬ x205.2.2.1 78 x306.toNatClampNeg = 0 then (if ¬ x205.2.2.1 71 ((60 * x) + x205.2.1).toNatClampNeg = 26 then some (.inl (x205.1, x205.2.1 + 1, x205.2.2)) else (if f_M_isClass (x205.2.2.1 72 ((60 * x) + x205.2.1).toNatClampNeg) x205.2.2 = true then (if ixo (x205.2.2.1 72 ((60 * x) + x205.2.1).toNatClampNeg) 10 then (if ¬ x205.2.2.1 76 (x205.2.2.1 72 ((60 * x) + x205.2.1).toNatClampNeg).toNatClampNeg = 0 then some (.inl (x205.1, x205.2.1 + 1, x205.2.2)) else (lt (mw x205.2.2 76 (x205.2.2.1 72 ((60 * x) + x205.2.1).toNatClampNeg).toNatClampNeg 1) fun M314 => some (.inl (1, x205.2.1 + 1, M314)))) else none) else some (.inl (x205.1, x205.2.1 + 1, x205.2.2)))) else (if ¬ x205.2.2.1 71 ((60 * x) + x205.2.1).toNatClampNeg = 48 then (lt (mw x205.2.2 78 (x205.2.2.1 72 ((60 * x) + x205.2.1).toNatClampNeg).toNatClampNeg 1) fun M317 => some (.inl (1, x205.2.1 + 1, M317))) else (lt (mw x205.2.2 78 0 1) fun M318 => some (.inl (1, x205.2.1 + 1, M318))))) else none)) else (if ¬ x205.2.2.1 71 ((60 * x) + x205.2.1).toNatClampNeg = 48 then (if ¬ x205.2.2.1 71 ((60 * x) + x205.2.1).toNatClampNeg = 26 then some (.inl (x205.1, x205.2.1 + 1, x205.2.2)) else (if f_M_isClass (x205.2.2.1 72 ((60 * x) + x205.2.1).toNatClampNeg) x205.2.2 = true then (if ixo (x205.2.2.1 72 ((60 * x) + x205.2.1).toNatClampNeg) 10 then (if ¬ x205.2.2.1 76 (x205.2.2.1 72 ((60 * x) + x205.2.1).toNatClampNeg).toNatClampNeg = 0 then some (.inl (x205.1, x205.2.1 + 1, x205.2.2)) else (lt (mw x205.2.2 76 (x205.2.2.1 72 ((60 * x) + x205.2.1).toNatClampNeg).toNatClampNeg 1) fun M326 => some (.inl (1, x205.2.1 + 1, M326)))) else none) else some (.inl (x205.1, x205.2.1 + 1, x205.2.2)))) else (((if ¬ x205.2.2.1 71 ((60 * x) + x205.2.1).toNatClampNeg = 48 then some (x205.2.2.1 72 ((60 * x) + x205.2.1).toNatClampNeg) else some 0) : Option (Int32)).bind fun x329 => (if ixo x329 8 then (if ¬ x205.2.2.1 78 x329.toNatClampNeg = 0 then (if ¬ x205.2.2.1 71 ((60 * x) + x205.2.1).toNatClampNeg = 26 then some (.inl (x205.1, x205.2.1 + 1, x205.2.2)) else (if f_M_isClass (x205.2.2.1 72 ((60 * x) + x205.2.1).toNatClampNeg) x205.2.2 = true then (if ixo (x205.2.2.1 72 ((60 * x) + x205.2.1).toNatClampNeg) 10 then (if ¬ x205.2.2.1 76 (x205.2.2.1 72 ((60 * x) + x205.2.1).toNatClampNeg).toNatClampNeg = 0 then some (.inl (x205.1, x205.2.1 + 1, x205.2.2)) else (lt (mw x205.2.2 76 (x205.2.2.1 72 ((60 * x) + x205.2.1).toNatClampNeg).toNatClampNeg 1) fun M337 => some (.inl (1, x205.2.1 + 1, M337)))) else none) else some (.inl (x205.1, x205.2.1 + 1, x205.2.2)))) else (if ¬ x205.2.2.1 71 ((60 * x) + x205.2.1).toNatClampNeg = 48 then (if ixo (x205.2.2.1 72 ((60 * x) + x205.2.1).toNatClampNeg) 8 then (lt (mw x205.2.2 78 (x205.2.2.1 72 ((60 * x) + x205.2.1).toNatClampNeg).toNatClampNeg 1) fun M341 => some (.inl (1, x205.2.1 + 1, M341))) else none) else (lt (mw x205.2.2 78 0 1) fun M342 => some (.inl (1, x205.2.1 + 1, M342))))) else none))))) else (lt (mw x205.2.2 75 (x205.2.2.1 72 ((60 * x) + x205.2.1).toNatClampNeg).toNatClampNeg 1) fun M343 => some (.inl (1, x205.2.1 + 1, M343)))) else none) else (if ¬ x205.2.2.1 71 ((60 * x) + x205.2.1).toNatClampNeg = 39 then (if ¬ x205.2.2.1 71 ((60 * x) + x205.2.1).toNatClampNeg = 48 then (if ¬ x205.2.2.1 71 ((60 * x) + x205.2.1).toNatClampNeg = 26 then some (.inl (x205.1, x205.2.1 + 1, x205.2.2)) else (if f_M_isClass (x205.2.2.1 72 ((60 * x) + x205.2.1).toNatClampNeg) x205.2.2 = true then (if ixo (x205.2.2.1 72 ((60 * x) + x205.2.1).toNatClampNeg) 10 then (if ¬ x205.2.2.1 76 (x205.2.2.1 72 ((60 * x) + x205.2.1).toNatClampNeg).toNatClampNeg = 0 then some (.inl (x205.1, x205.2.1 + 1, x205.2.2)) else (lt (mw x205.2.2 76 (x205.2.2.1 72 ((60 * x) + x205.2.1).toNatClampNeg).toNatClampNeg 1) fun M352 => some (.inl (1, x205.2.1 + 1, M352)))) else none) else some (.inl (x205.1, x205.2.1 + 1, x205.2.2)))) else (((if ¬ x205.2.2.1 71 ((60 * x) + x205.2.1).toNatClampNeg = 48 then some (x205.2.2.1 72 ((60 * x) + x205.2.1).toNatClampNeg) else some 0) : Option (Int32)).bind fun x355 => (if ixo x355 8 then (if ¬ x205.2.2.1 78 x355.toNatClampNeg = 0 then (if ¬ x205.2.2.1 71 ((60 * x) + x205.2.1).toNatClampNeg = 26 then some (.inl (x205.1, x205.2.1 + 1, x205.2.2)) else (if f_M_isClass (x205.2.2.1 72 ((60 * x) + x205.2.1).toNatClampNeg) x205.2.2 = true then (if ixo (x205.2.2.1 72 ((60 * x) + x205.2.1).toNatClampNeg) 10 then (if ¬ x205.2.2.1 76 (x205.2.2.1 72 ((60 * x) + x205.2.1).toNatClampNeg).toNatClampNeg = 0 then some (.inl (x205.1, x205.2.1 + 1, x205.2.2)) else (lt (mw x205.2.2 76 (x205.2.2.1 72 ((60 * x) + x205.2.1).toNatClampNeg).toNatClampNeg 1) fun M363 => some (.inl (1, x205.2.1 + 1, M363)))) else none) else some (.inl (x205.1, x205.2.1 + 1, x205.2.2)))) else (if ¬ x205.2.2.1 71 ((60 * x) + x205.2.1).toNatClampNeg = 48 then (if ixo (x205.2.2.1 72 ((60 * x) + x205.2.1).toNatClampNeg) 8 then (lt (mw x205.2.2 78 (x205.2.2.1 72 ((60 * x) + x205.2.1).toNatClampNeg).toNatClampNeg 1) fun M367 => some (.inl (1, x205.2.1 + 1, M367))) else none) else (lt (mw x205.2.2 78 0 1) fun M368 => some (.inl (1, x205.2.1 + 1, M368))))) else none))) else (if 0 ≤ x205.2.2.1 72 ((60 * x) + x205.2.1).toNatClampNeg ∧ x205.2.2.1 72 ((60 * x) + x205.2.1).toNatClampNeg ≤ 7 then (((if ¬ x205.2.2.1 71 ((60 * x) + x205.2.1).toNatClampNeg = 48 then some (x205.2.2.1 72 ((60 * x) + x205.2.1).toNatClampNeg) else some 0) : Option (Int32)).bind fun x372 => (if ixo x372 8 then (if ¬ x205.2.2.1 78 x372.toNatClampNeg = 0 then (if ¬ x205.2.2.1 71 ((60 * x) + x205.2.1).toNatClampNeg = 26 then some (.inl (x205.1, x205.2.1 + 1, x205.2.2)) else (if f_M_isClass (x205.2.2.1 72 ((60 * x) + x205.2.1).toNatClampNeg) x205.2.2 = true then (if ixo (x205.2.2.1 72 ((60 * x) + x205.2.1).toNatClampNeg) 10 then (if ¬ x205.2.2.1 76 (x205.2.2.1 72 ((60 * x) + x205.2.1).toNatClampNeg).toNatClampNeg = 0 then some (.inl (x205.1, x205.2.1 + 1, x205.2.2)) else (lt (mw x205.2.2 76 (x205.2.2.1 72 ((60 * x) + x205.2.1).toNatClampNeg).toNatClampNeg 1) fun M380 => some (.inl (1, x205.2.1 + 1, M380)))) else none) else some (.inl (x205.1, x205.2.1 + 1, x205.2.2)))) else (if ¬ x205.2.2.1 71 ((60 * x) + x205.2.1).toNatClampNeg = 48 then (lt (mw x205.2.2 78 (x205.2.2.1 72 ((60 * x) + x205.2.1).toNatClampNeg).toNatClampNeg 1) fun M383 => some (.inl (1, x205.2.1 + 1, M383))) else (lt (mw x205.2.2 78 0 1) fun M384 => some (.inl (1, x205.2.1 + 1, M384))))) else none)) else (if ¬ x205.2.2.1 71 ((60 * x) + x205.2.1).toNatClampNeg = 48 then (if ¬ x205.2.2.1 71 ((60 * x) + x205.2.1).toNatClampNeg = 26 then some (.inl (x205.1, x205.2.1 + 1, x205.2.2)) else (if f_M_isClass (x205.2.2.1 72 ((60 * x) + x205.2.1).toNatClampNeg) x205.2.2 = true then (if ixo (x205.2.2.1 72 ((60 * x) + x205.2.1).toNatClampNeg) 10 then (if ¬ x205.2.2.1 76 (x205.2.2.1 72 ((60 * x) + x205.2.1).toNatClampNeg).toNatClampNeg = 0 then some (.inl (x205.1, x205.2.1 + 1, x205.2.2)) else (lt (mw x205.2.2 76 (x205.2.2.1 72 ((60 * x) + x205.2.1).toNatClampNeg).toNatClampNeg 1) fun M392 => some (.inl (1, x205.2.1 + 1, M392)))) else none) else some (.inl (x205.1, x205.2.1 + 1, x205.2.2)))) else (((if ¬ x205.2.2.1 71 ((60 * x) + x205.2.1).toNatClampNeg = 48 then some (x205.2.2.1 72 ((60 * x) + x205.2.1).toNatClampNeg) else some 0) : Option (Int32)).bind fun x395 => (if ixo x395 8 then (if ¬ x205.2.2.1 78 x395.toNatClampNeg = 0 then (if ¬ x205.2.2.1 71 ((60 * x) + x205.2.1).toNatClampNeg = 26 then some (.inl (x205.1, x205.2.1 + 1, x205.2.2)) else (if f_M_isClass (x205.2.2.1 72 ((60 * x) + x205.2.1).toNatClampNeg) x205.2.2 = true then (if ixo (x205.2.2.1 72 ((60 * x) + x205.2.1).toNatClampNeg) 10 then (if ¬ x205.2.2.1 76 (x205.2.2.1 72 ((60 * x) + x205.2.1).toNatClampNeg).toNatClampNeg = 0 then some (.inl (x205.1, x205.2.1 + 1, x205.2.2)) else (lt (mw x205.2.2 76 (x205.2.2.1 72 ((60 * x) + x205.2.1).toNatClampNeg).toNatClampNeg 1) fun M403 => some (.inl (1, x205.2.1 + 1, M403)))) else none) else some (.inl (x205.1, x205.2.1 + 1, x205.2.2)))) else (if ¬ x205.2.2.1 71 ((60 * x) + x205.2.1).toNatClampNeg = 48 then (if ixo (x205.2.2.1 72 ((60 * x) + x205.2.1).toNatClampNeg) 8 then (lt (mw x205.2.2 78 (x205.2.2.1 72 ((60 * x) + x205.2.1).toNatClampNeg).toNatClampNeg 1) fun M407 => some (.inl (1, x205.2.1 + 1, M407))) else none) else (lt (mw x205.2.2 78 0 1) fun M408 => some (.inl (1, x205.2.1 + 1, M408))))) else none)))))))) else none)) else none)
def f_M_follow (x : Int32) (M : MS) : Option (Bool × MS) := ((lp (b4_M_follow x) 10000 ((0 : Int32), (0 : Int32), M)).bind fun x409 => (if x409.1 = 1 then some (true, x409.2.2) else (if x409.1 = 0 then some (false, x409.2.2) else none)))
set_option maxRecDepth 100000 in
set_option maxHeartbeats 4000000 in
theorem s_M_follow {L : Nat} {xs : Nat → Int32} {X : XS} {M : MS} {x : Int32} : Sp (mjOO L xs) 30 0 [some (.ref 60), some (.int x), none, none, none, none] [] (hS X M) (f_M_follow x M) (KBM X) := by
  unfold f_M_follow
  refine Sp.step rfl rfl rfl rfl ?_
  refine Sp.step rfl rfl rfl rfl ?_
  refine Sp.step rfl rfl rfl rfl ?_
  refine Sp.step rfl rfl rfl rfl ?_
  refine Sp.weak (l0 := [some (.ref 60), some (.int x), some (.int 0), some (.int 0), none, none]) ⟨rfl, rfl, rfl, rfl, trivial⟩ ?_
  refine Sp.loopX (pe := 191) (mf := (fun (x205 : (Int32 × Int32 × MS)) => [some (.ref 60), some (.int x), some (.int x205.1), some (.int x205.2.1), none, none])) (hf := (fun (x205 : (Int32 × Int32 × MS)) => hS X x205.2.2)) (fun x205 => ?_) (fun x409 => ?_) _ _
  · unfold b4_M_follow
    refine Sp.step rfl rfl rfl rfl ?_
    refine Sp.step rfl rfl rfl rfl ?_
    refine Sp.step rfl rfl rfl (mg_F (f := 10) rfl rfl rfl rfl) ?_
    refine Sp.step rfl rfl rfl rfl ?_
    refine Sp.guard (fun e206 => ?_)
    refine Sp.step rfl rfl rfl (mld rfl rfl (by decide) e206) ?_
    refine Sp.if2 rfl rfl rfl rfl (fun e207 => ?_) (fun e207 => ?_)
    · exact Sp.jmp (l0 := [some (.ref 60), some (.int x), some (.int x205.1), some (.int x205.2.1), none, none]) ⟨rfl, rfl, rfl, rfl, trivial⟩ (fun _ _ h => h)
    · refine Sp.step rfl rfl rfl rfl ?_
      refine Sp.step rfl rfl rfl (mg_F (f := 11) rfl rfl rfl rfl) ?_
      refine Sp.step rfl rfl rfl rfl ?_
      refine Sp.step rfl rfl rfl rfl ?_
      refine Sp.step rfl rfl rfl rfl ?_
      refine Sp.step rfl rfl rfl rfl ?_
      refine Sp.step rfl rfl rfl rfl ?_
      refine Sp.guard (fun e208 => ?_)
      refine Sp.step rfl rfl rfl (mld rfl rfl (by decide) e208) ?_
      refine Sp.step rfl rfl rfl rfl ?_
      refine Sp.step rfl rfl rfl rfl ?_
      refine Sp.step rfl rfl rfl (mg_F (f := 12) rfl rfl rfl rfl) ?_
      refine Sp.step rfl rfl rfl rfl ?_
      refine Sp.step rfl rfl rfl rfl ?_
      refine Sp.step rfl rfl rfl rfl ?_
      refine Sp.step rfl rfl rfl rfl ?_
      refine Sp.step rfl rfl rfl rfl ?_
      refine Sp.step rfl rfl rfl (mld rfl rfl (by decide) e208) ?_
      refine Sp.step rfl rfl rfl rfl ?_
      refine Sp.step rfl rfl rfl rfl ?_
      refine Sp.step rfl rfl rfl rfl ?_
      refine Sp.if2 rfl rfl rfl rfl (fun e209 => ?_) (fun e209 => ?_)
      · refine Sp.step rfl rfl rfl rfl ?_
        refine Sp.step rfl rfl rfl rfl ?_
        refine Sp.if2 rfl rfl rfl rfl (fun e210 => ?_) (fun e210 => ?_)
        · refine Sp.step rfl rfl rfl rfl ?_
          refine Sp.step rfl rfl rfl rfl ?_
          refine Sp.if2 rfl rfl rfl rfl (fun e211 => ?_) (fun e211 => ?_)
          · refine Sp.step rfl rfl rfl rfl ?_
            refine Sp.step rfl rfl rfl rfl ?_
            refine Sp.if2 rfl rfl rfl rfl (fun e212 => ?_) (fun e212 => ?_)
            · refine Sp.step rfl rfl rfl rfl ?_
              refine Sp.step rfl rfl rfl rfl ?_
              exact Sp.jmp (l0 := [some (.ref 60), some (.int x), some (.int x205.1), some (.int (x205.2.1 + 1)), none, none]) ⟨rfl, rfl, rfl, rfl, trivial⟩ (fun _ _ h => h)
            · refine Sp.step rfl rfl rfl rfl ?_
              refine Sp.step rfl rfl rfl rfl ?_
              refine Sp.callS rfl rfl rfl (mrecv (by decide) (by decide +kernel)) s_M_isClass ⟨rfl, rfl⟩ ?_
              refine Sp.bool (fun e213 => ?_) (fun e213 => ?_)
              · refine Sp.step rfl rfl rfl rfl ?_
                refine Sp.step rfl rfl rfl rfl ?_
                refine Sp.step rfl rfl rfl (mg_F (f := 17) rfl rfl rfl rfl) ?_
                refine Sp.step rfl rfl rfl rfl ?_
                refine Sp.guard (fun e215 => ?_)
                refine Sp.step rfl rfl rfl (mld rfl rfl (by decide) e215) ?_
                refine Sp.if1 rfl rfl rfl rfl (fun e216 => ?_) (fun e216 => ?_)
                · refine Sp.step rfl rfl rfl rfl ?_
                  refine Sp.step rfl rfl rfl rfl ?_
                  exact Sp.jmp (l0 := [some (.ref 60), some (.int x), some (.int x205.1), some (.int (x205.2.1 + 1)), none, none]) ⟨rfl, rfl, rfl, rfl, trivial⟩ (fun _ _ h => h)
                · refine Sp.step rfl rfl rfl rfl ?_
                  refine Sp.step rfl rfl rfl (mg_F (f := 17) rfl rfl rfl rfl) ?_
                  refine Sp.step rfl rfl rfl rfl ?_
                  refine Sp.step rfl rfl rfl rfl ?_
                  refine Sp.step rfl rfl rfl (mst1 rfl rfl e215) ?_
                  refine Sp.step rfl rfl rfl rfl ?_
                  refine Sp.step rfl rfl rfl rfl ?_
                  refine Sp.step rfl rfl rfl rfl ?_
                  refine Sp.step rfl rfl rfl rfl ?_
                  exact Sp.jmp (l0 := [some (.ref 60), some (.int x), some (.int 1), some (.int (x205.2.1 + 1)), none, none]) ⟨rfl, rfl, rfl, rfl, trivial⟩ (fun _ _ h => h)
              · refine Sp.step rfl rfl rfl rfl ?_
                refine Sp.step rfl rfl rfl rfl ?_
                refine Sp.step rfl rfl rfl rfl ?_
                exact Sp.jmp (l0 := [some (.ref 60), some (.int x), some (.int x205.1), some (.int (x205.2.1 + 1)), none, none]) ⟨rfl, rfl, rfl, rfl, trivial⟩ (fun _ _ h => h)
          · refine Sp.step rfl rfl rfl rfl ?_
            refine Sp.step rfl rfl rfl (mg_F (f := 19) rfl rfl rfl rfl) ?_
            refine Sp.step rfl rfl rfl rfl ?_
            refine Sp.step rfl rfl rfl rfl ?_
            refine Sp.piece (pe := 121) (mf := (fun (x220 : Int32) => [some (.ref 60), some (.int x), some (.int x205.1), some (.int x205.2.1), some (.int (x205.2.2.1 71 ((60 * x) + x205.2.1).toNatClampNeg)), some (.int (x205.2.2.1 72 ((60 * x) + x205.2.1).toNatClampNeg))])) (sf := (fun (x220 : Int32) => [.int x220, .ref 78])) (hf := (fun (x220 : Int32) => hS X x205.2.2)) ?_ (fun x220 => ?_)
            · refine Sp.if2 rfl rfl rfl rfl (fun e219 => ?_) (fun e219 => ?_)
              · refine Sp.step rfl rfl rfl rfl ?_
                exact Sp.jmp (l0 := [some (.ref 60), some (.int x), some (.int x205.1), some (.int x205.2.1), some (.int (x205.2.2.1 71 ((60 * x) + x205.2.1).toNatClampNeg)), some (.int (x205.2.2.1 72 ((60 * x) + x205.2.1).toNatClampNeg))]) ⟨rfl, rfl, rfl, rfl, rfl, rfl, trivial⟩ (fun _ _ h => h)
              · refine Sp.step rfl rfl rfl rfl ?_
                refine Sp.step rfl rfl rfl rfl ?_
                exact Sp.jmp (l0 := [some (.ref 60), some (.int x), some (.int x205.1), some (.int x205.2.1), some (.int (x205.2.2.1 71 ((60 * x) + x205.2.1).toNatClampNeg)), some (.int (x205.2.2.1 72 ((60 * x) + x205.2.1).toNatClampNeg))]) ⟨rfl, rfl, rfl, rfl, rfl, rfl, trivial⟩ (fun _ _ h => h)
            · refine Sp.guard (fun e221 => ?_)
              refine Sp.step rfl rfl rfl (mld rfl rfl (by decide) e221) ?_
              refine Sp.if1 rfl rfl rfl rfl (fun e222 => ?_) (fun e222 => ?_)
              · refine Sp.step rfl rfl rfl rfl ?_
                refine Sp.step rfl rfl rfl rfl ?_
                refine Sp.if2 rfl rfl rfl rfl (fun e223 => ?_) (fun e223 => ?_)
                · refine Sp.step rfl rfl rfl rfl ?_
                  refine Sp.step rfl rfl rfl rfl ?_
                  exact Sp.jmp (l0 := [some (.ref 60), some (.int x), some (.int x205.1), some (.int (x205.2.1 + 1)), none, none]) ⟨rfl, rfl, rfl, rfl, trivial⟩ (fun _ _ h => h)
                · refine Sp.step rfl rfl rfl rfl ?_
                  refine Sp.step rfl rfl rfl rfl ?_
                  refine Sp.callS rfl rfl rfl (mrecv (by decide) (by decide +kernel)) s_M_isClass ⟨rfl, rfl⟩ ?_
                  refine Sp.bool (fun e224 => ?_) (fun e224 => ?_)
                  · refine Sp.step rfl rfl rfl rfl ?_
                    refine Sp.step rfl rfl rfl rfl ?_
                    refine Sp.step rfl rfl rfl (mg_F (f := 17) rfl rfl rfl rfl) ?_
                    refine Sp.step rfl rfl rfl rfl ?_
                    refine Sp.guard (fun e226 => ?_)
                    refine Sp.step rfl rfl rfl (mld rfl rfl (by decide) e226) ?_
                    refine Sp.if1 rfl rfl rfl rfl (fun e227 => ?_) (fun e227 => ?_)
                    · refine Sp.step rfl rfl rfl rfl ?_
                      refine Sp.step rfl rfl rfl rfl ?_
                      exact Sp.jmp (l0 := [some (.ref 60), some (.int x), some (.int x205.1), some (.int (x205.2.1 + 1)), none, none]) ⟨rfl, rfl, rfl, rfl, trivial⟩ (fun _ _ h => h)
                    · refine Sp.step rfl rfl rfl rfl ?_
                      refine Sp.step rfl rfl rfl (mg_F (f := 17) rfl rfl rfl rfl) ?_
                      refine Sp.step rfl rfl rfl rfl ?_
                      refine Sp.step rfl rfl rfl rfl ?_
                      refine Sp.step rfl rfl rfl (mst1 rfl rfl e226) ?_
                      refine Sp.step rfl rfl rfl rfl ?_
                      refine Sp.step rfl rfl rfl rfl ?_
                      refine Sp.step rfl rfl rfl rfl ?_
                      refine Sp.step rfl rfl rfl rfl ?_
                      exact Sp.jmp (l0 := [some (.ref 60), some (.int x), some (.int 1), some (.int (x205.2.1 + 1)), none, none]) ⟨rfl, rfl, rfl, rfl, trivial⟩ (fun _ _ h => h)
                  · refine Sp.step rfl rfl rfl rfl ?_
                    refine Sp.step rfl rfl rfl rfl ?_
                    refine Sp.step rfl rfl rfl rfl ?_
                    exact Sp.jmp (l0 := [some (.ref 60), some (.int x), some (.int x205.1), some (.int (x205.2.1 + 1)), none, none]) ⟨rfl, rfl, rfl, rfl, trivial⟩ (fun _ _ h => h)
              · refine Sp.step rfl rfl rfl rfl ?_
                refine Sp.step rfl rfl rfl (mg_F (f := 19) rfl rfl rfl rfl) ?_
                refine Sp.step rfl rfl rfl rfl ?_
                refine Sp.step rfl rfl rfl rfl ?_
                refine Sp.if2 rfl rfl rfl rfl (fun e230 => ?_) (fun e230 => ?_)
                · refine Sp.step rfl rfl rfl rfl ?_
                  refine Sp.step rfl rfl rfl rfl ?_
                  refine Sp.guard (fun e231 => ?_)
                  refine Sp.step rfl rfl rfl (mst1 rfl rfl e231) ?_
                  refine Sp.step rfl rfl rfl rfl ?_
                  refine Sp.step rfl rfl rfl rfl ?_
                  refine Sp.step rfl rfl rfl rfl ?_
                  refine Sp.step rfl rfl rfl rfl ?_
                  refine Sp.step rfl rfl rfl rfl ?_
                  exact Sp.jmp (l0 := [some (.ref 60), some (.int x), some (.int 1), some (.int (x205.2.1 + 1)), none, none]) ⟨rfl, rfl, rfl, rfl, trivial⟩ (fun _ _ h => h)
                · refine Sp.step rfl rfl rfl rfl ?_
                  refine Sp.step rfl rfl rfl rfl ?_
                  refine Sp.step rfl rfl rfl rfl ?_
                  refine Sp.step rfl rfl rfl (mst1 rfl rfl (by decide)) ?_
                  refine Sp.step rfl rfl rfl rfl ?_
                  refine Sp.step rfl rfl rfl rfl ?_
                  refine Sp.step rfl rfl rfl rfl ?_
                  refine Sp.step rfl rfl rfl rfl ?_
                  refine Sp.step rfl rfl rfl rfl ?_
                  exact Sp.jmp (l0 := [some (.ref 60), some (.int x), some (.int 1), some (.int (x205.2.1 + 1)), none, none]) ⟨rfl, rfl, rfl, rfl, trivial⟩ (fun _ _ h => h)
        · refine Sp.step rfl rfl rfl rfl ?_
          refine Sp.step rfl rfl rfl rfl ?_
          refine Sp.step rfl rfl rfl rfl ?_
          refine Sp.callP rfl rfl rfl rfl s_isIn (fun e234 => ?_) (fun e234 => ?_)
          · refine Sp.step rfl rfl rfl rfl ?_
            refine Sp.step rfl rfl rfl rfl ?_
            refine Sp.step rfl rfl rfl (mg_F (f := 19) rfl rfl rfl rfl) ?_
            refine Sp.step rfl rfl rfl rfl ?_
            refine Sp.step rfl rfl rfl rfl ?_
            refine Sp.piece (pe := 121) (mf := (fun (x237 : Int32) => [some (.ref 60), some (.int x), some (.int x205.1), some (.int x205.2.1), some (.int (x205.2.2.1 71 ((60 * x) + x205.2.1).toNatClampNeg)), some (.int (x205.2.2.1 72 ((60 * x) + x205.2.1).toNatClampNeg))])) (sf := (fun (x237 : Int32) => [.int x237, .ref 78])) (hf := (fun (x237 : Int32) => hS X x205.2.2)) ?_ (fun x237 => ?_)
            · refine Sp.if2 rfl rfl rfl rfl (fun e236 => ?_) (fun e236 => ?_)
              · refine Sp.step rfl rfl rfl rfl ?_
                exact Sp.jmp (l0 := [some (.ref 60), some (.int x), some (.int x205.1), some (.int x205.2.1), some (.int (x205.2.2.1 71 ((60 * x) + x205.2.1).toNatClampNeg)), some (.int (x205.2.2.1 72 ((60 * x) + x205.2.1).toNatClampNeg))]) ⟨rfl, rfl, rfl, rfl, rfl, rfl, trivial⟩ (fun _ _ h => h)
              · refine Sp.step rfl rfl rfl rfl ?_
                refine Sp.step rfl rfl rfl rfl ?_
                exact Sp.jmp (l0 := [some (.ref 60), some (.int x), some (.int x205.1), some (.int x205.2.1), some (.int (x205.2.2.1 71 ((60 * x) + x205.2.1).toNatClampNeg)), some (.int (x205.2.2.1 72 ((60 * x) + x205.2.1).toNatClampNeg))]) ⟨rfl, rfl, rfl, rfl, rfl, rfl, trivial⟩ (fun _ _ h => h)
            · refine Sp.guard (fun e238 => ?_)
              refine Sp.step rfl rfl rfl (mld rfl rfl (by decide) e238) ?_
              refine Sp.if1 rfl rfl rfl rfl (fun e239 => ?_) (fun e239 => ?_)
              · refine Sp.step rfl rfl rfl rfl ?_
                refine Sp.step rfl rfl rfl rfl ?_
                refine Sp.if2 rfl rfl rfl rfl (fun e240 => ?_) (fun e240 => ?_)
                · refine Sp.step rfl rfl rfl rfl ?_
                  refine Sp.step rfl rfl rfl rfl ?_
                  exact Sp.jmp (l0 := [some (.ref 60), some (.int x), some (.int x205.1), some (.int (x205.2.1 + 1)), none, none]) ⟨rfl, rfl, rfl, rfl, trivial⟩ (fun _ _ h => h)
                · refine Sp.step rfl rfl rfl rfl ?_
                  refine Sp.step rfl rfl rfl rfl ?_
                  refine Sp.callS rfl rfl rfl (mrecv (by decide) (by decide +kernel)) s_M_isClass ⟨rfl, rfl⟩ ?_
                  refine Sp.bool (fun e241 => ?_) (fun e241 => ?_)
                  · refine Sp.step rfl rfl rfl rfl ?_
                    refine Sp.step rfl rfl rfl rfl ?_
                    refine Sp.step rfl rfl rfl (mg_F (f := 17) rfl rfl rfl rfl) ?_
                    refine Sp.step rfl rfl rfl rfl ?_
                    refine Sp.guard (fun e243 => ?_)
                    refine Sp.step rfl rfl rfl (mld rfl rfl (by decide) e243) ?_
                    refine Sp.if1 rfl rfl rfl rfl (fun e244 => ?_) (fun e244 => ?_)
                    · refine Sp.step rfl rfl rfl rfl ?_
                      refine Sp.step rfl rfl rfl rfl ?_
                      exact Sp.jmp (l0 := [some (.ref 60), some (.int x), some (.int x205.1), some (.int (x205.2.1 + 1)), none, none]) ⟨rfl, rfl, rfl, rfl, trivial⟩ (fun _ _ h => h)
                    · refine Sp.step rfl rfl rfl rfl ?_
                      refine Sp.step rfl rfl rfl (mg_F (f := 17) rfl rfl rfl rfl) ?_
                      refine Sp.step rfl rfl rfl rfl ?_
                      refine Sp.step rfl rfl rfl rfl ?_
                      refine Sp.step rfl rfl rfl (mst1 rfl rfl e243) ?_
                      refine Sp.step rfl rfl rfl rfl ?_
                      refine Sp.step rfl rfl rfl rfl ?_
                      refine Sp.step rfl rfl rfl rfl ?_
                      refine Sp.step rfl rfl rfl rfl ?_
                      exact Sp.jmp (l0 := [some (.ref 60), some (.int x), some (.int 1), some (.int (x205.2.1 + 1)), none, none]) ⟨rfl, rfl, rfl, rfl, trivial⟩ (fun _ _ h => h)
                  · refine Sp.step rfl rfl rfl rfl ?_
                    refine Sp.step rfl rfl rfl rfl ?_
                    refine Sp.step rfl rfl rfl rfl ?_
                    exact Sp.jmp (l0 := [some (.ref 60), some (.int x), some (.int x205.1), some (.int (x205.2.1 + 1)), none, none]) ⟨rfl, rfl, rfl, rfl, trivial⟩ (fun _ _ h => h)
              · refine Sp.step rfl rfl rfl rfl ?_
                refine Sp.step rfl rfl rfl (mg_F (f := 19) rfl rfl rfl rfl) ?_
                refine Sp.step rfl rfl rfl rfl ?_
                refine Sp.step rfl rfl rfl rfl ?_
                refine Sp.if2 rfl rfl rfl rfl (fun e247 => ?_) (fun e247 => ?_)
                · refine Sp.step rfl rfl rfl rfl ?_
                  refine Sp.step rfl rfl rfl rfl ?_
                  refine Sp.step rfl rfl rfl (mst1 rfl rfl (ix_le (N := 7) rfl e234.1 e234.2)) ?_
                  refine Sp.step rfl rfl rfl rfl ?_
                  refine Sp.step rfl rfl rfl rfl ?_
                  refine Sp.step rfl rfl rfl rfl ?_
                  refine Sp.step rfl rfl rfl rfl ?_
                  refine Sp.step rfl rfl rfl rfl ?_
                  exact Sp.jmp (l0 := [some (.ref 60), some (.int x), some (.int 1), some (.int (x205.2.1 + 1)), none, none]) ⟨rfl, rfl, rfl, rfl, trivial⟩ (fun _ _ h => h)
                · refine Sp.step rfl rfl rfl rfl ?_
                  refine Sp.step rfl rfl rfl rfl ?_
                  refine Sp.step rfl rfl rfl rfl ?_
                  refine Sp.step rfl rfl rfl (mst1 rfl rfl (by decide)) ?_
                  refine Sp.step rfl rfl rfl rfl ?_
                  refine Sp.step rfl rfl rfl rfl ?_
                  refine Sp.step rfl rfl rfl rfl ?_
                  refine Sp.step rfl rfl rfl rfl ?_
                  refine Sp.step rfl rfl rfl rfl ?_
                  exact Sp.jmp (l0 := [some (.ref 60), some (.int x), some (.int 1), some (.int (x205.2.1 + 1)), none, none]) ⟨rfl, rfl, rfl, rfl, trivial⟩ (fun _ _ h => h)
          · refine Sp.step rfl rfl rfl rfl ?_
            refine Sp.step rfl rfl rfl rfl ?_
            refine Sp.step rfl rfl rfl rfl ?_
            refine Sp.if2 rfl rfl rfl rfl (fun e251 => ?_) (fun e251 => ?_)
            · refine Sp.step rfl rfl rfl rfl ?_
              refine Sp.step rfl rfl rfl rfl ?_
              refine Sp.if2 rfl rfl rfl rfl (fun e252 => ?_) (fun e252 => ?_)
              · refine Sp.step rfl rfl rfl rfl ?_
                refine Sp.step rfl rfl rfl rfl ?_
                exact Sp.jmp (l0 := [some (.ref 60), some (.int x), some (.int x205.1), some (.int (x205.2.1 + 1)), none, none]) ⟨rfl, rfl, rfl, rfl, trivial⟩ (fun _ _ h => h)
              · refine Sp.step rfl rfl rfl rfl ?_
                refine Sp.step rfl rfl rfl rfl ?_
                refine Sp.callS rfl rfl rfl (mrecv (by decide) (by decide +kernel)) s_M_isClass ⟨rfl, rfl⟩ ?_
                refine Sp.bool (fun e253 => ?_) (fun e253 => ?_)
                · refine Sp.step rfl rfl rfl rfl ?_
                  refine Sp.step rfl rfl rfl rfl ?_
                  refine Sp.step rfl rfl rfl (mg_F (f := 17) rfl rfl rfl rfl) ?_
                  refine Sp.step rfl rfl rfl rfl ?_
                  refine Sp.guard (fun e255 => ?_)
                  refine Sp.step rfl rfl rfl (mld rfl rfl (by decide) e255) ?_
                  refine Sp.if1 rfl rfl rfl rfl (fun e256 => ?_) (fun e256 => ?_)
                  · refine Sp.step rfl rfl rfl rfl ?_
                    refine Sp.step rfl rfl rfl rfl ?_
                    exact Sp.jmp (l0 := [some (.ref 60), some (.int x), some (.int x205.1), some (.int (x205.2.1 + 1)), none, none]) ⟨rfl, rfl, rfl, rfl, trivial⟩ (fun _ _ h => h)
                  · refine Sp.step rfl rfl rfl rfl ?_
                    refine Sp.step rfl rfl rfl (mg_F (f := 17) rfl rfl rfl rfl) ?_
                    refine Sp.step rfl rfl rfl rfl ?_
                    refine Sp.step rfl rfl rfl rfl ?_
                    refine Sp.step rfl rfl rfl (mst1 rfl rfl e255) ?_
                    refine Sp.step rfl rfl rfl rfl ?_
                    refine Sp.step rfl rfl rfl rfl ?_
                    refine Sp.step rfl rfl rfl rfl ?_
                    refine Sp.step rfl rfl rfl rfl ?_
                    exact Sp.jmp (l0 := [some (.ref 60), some (.int x), some (.int 1), some (.int (x205.2.1 + 1)), none, none]) ⟨rfl, rfl, rfl, rfl, trivial⟩ (fun _ _ h => h)
                · refine Sp.step rfl rfl rfl rfl ?_
                  refine Sp.step rfl rfl rfl rfl ?_
                  refine Sp.step rfl rfl rfl rfl ?_
                  exact Sp.jmp (l0 := [some (.ref 60), some (.int x), some (.int x205.1), some (.int (x205.2.1 + 1)), none, none]) ⟨rfl, rfl, rfl, rfl, trivial⟩ (fun _ _ h => h)
            · refine Sp.step rfl rfl rfl rfl ?_
              refine Sp.step rfl rfl rfl (mg_F (f := 19) rfl rfl rfl rfl) ?_
              refine Sp.step rfl rfl rfl rfl ?_
              refine Sp.step rfl rfl rfl rfl ?_
              refine Sp.piece (pe := 121) (mf := (fun (x260 : Int32) => [some (.ref 60), some (.int x), some (.int x205.1), some (.int x205.2.1), some (.int (x205.2.2.1 71 ((60 * x) + x205.2.1).toNatClampNeg)), some (.int (x205.2.2.1 72 ((60 * x) + x205.2.1).toNatClampNeg))])) (sf := (fun (x260 : Int32) => [.int x260, .ref 78])) (hf := (fun (x260 : Int32) => hS X x205.2.2)) ?_ (fun x260 => ?_)
              · refine Sp.if2 rfl rfl rfl rfl (fun e259 => ?_) (fun e259 => ?_)
                · refine Sp.step rfl rfl rfl rfl ?_
                  exact Sp.jmp (l0 := [some (.ref 60), some (.int x), some (.int x205.1), some (.int x205.2.1), some (.int (x205.2.2.1 71 ((60 * x) + x205.2.1).toNatClampNeg)), some (.int (x205.2.2.1 72 ((60 * x) + x205.2.1).toNatClampNeg))]) ⟨rfl, rfl, rfl, rfl, rfl, rfl, trivial⟩ (fun _ _ h => h)
                · refine Sp.step rfl rfl rfl rfl ?_
                  refine Sp.step rfl rfl rfl rfl ?_
                  exact Sp.jmp (l0 := [some (.ref 60), some (.int x), some (.int x205.1), some (.int x205.2.1), some (.int (x205.2.2.1 71 ((60 * x) + x205.2.1).toNatClampNeg)), some (.int (x205.2.2.1 72 ((60 * x) + x205.2.1).toNatClampNeg))]) ⟨rfl, rfl, rfl, rfl, rfl, rfl, trivial⟩ (fun _ _ h => h)
              · refine Sp.guard (fun e261 => ?_)
                refine Sp.step rfl rfl rfl (mld rfl rfl (by decide) e261) ?_
                refine Sp.if1 rfl rfl rfl rfl (fun e262 => ?_) (fun e262 => ?_)
                · refine Sp.step rfl rfl rfl rfl ?_
                  refine Sp.step rfl rfl rfl rfl ?_
                  refine Sp.if2 rfl rfl rfl rfl (fun e263 => ?_) (fun e263 => ?_)
                  · refine Sp.step rfl rfl rfl rfl ?_
                    refine Sp.step rfl rfl rfl rfl ?_
                    exact Sp.jmp (l0 := [some (.ref 60), some (.int x), some (.int x205.1), some (.int (x205.2.1 + 1)), none, none]) ⟨rfl, rfl, rfl, rfl, trivial⟩ (fun _ _ h => h)
                  · refine Sp.step rfl rfl rfl rfl ?_
                    refine Sp.step rfl rfl rfl rfl ?_
                    refine Sp.callS rfl rfl rfl (mrecv (by decide) (by decide +kernel)) s_M_isClass ⟨rfl, rfl⟩ ?_
                    refine Sp.bool (fun e264 => ?_) (fun e264 => ?_)
                    · refine Sp.step rfl rfl rfl rfl ?_
                      refine Sp.step rfl rfl rfl rfl ?_
                      refine Sp.step rfl rfl rfl (mg_F (f := 17) rfl rfl rfl rfl) ?_
                      refine Sp.step rfl rfl rfl rfl ?_
                      refine Sp.guard (fun e266 => ?_)
                      refine Sp.step rfl rfl rfl (mld rfl rfl (by decide) e266) ?_
                      refine Sp.if1 rfl rfl rfl rfl (fun e267 => ?_) (fun e267 => ?_)
                      · refine Sp.step rfl rfl rfl rfl ?_
                        refine Sp.step rfl rfl rfl rfl ?_
                        exact Sp.jmp (l0 := [some (.ref 60), some (.int x), some (.int x205.1), some (.int (x205.2.1 + 1)), none, none]) ⟨rfl, rfl, rfl, rfl, trivial⟩ (fun _ _ h => h)
                      · refine Sp.step rfl rfl rfl rfl ?_
                        refine Sp.step rfl rfl rfl (mg_F (f := 17) rfl rfl rfl rfl) ?_
                        refine Sp.step rfl rfl rfl rfl ?_
                        refine Sp.step rfl rfl rfl rfl ?_
                        refine Sp.step rfl rfl rfl (mst1 rfl rfl e266) ?_
                        refine Sp.step rfl rfl rfl rfl ?_
                        refine Sp.step rfl rfl rfl rfl ?_
                        refine Sp.step rfl rfl rfl rfl ?_
                        refine Sp.step rfl rfl rfl rfl ?_
                        exact Sp.jmp (l0 := [some (.ref 60), some (.int x), some (.int 1), some (.int (x205.2.1 + 1)), none, none]) ⟨rfl, rfl, rfl, rfl, trivial⟩ (fun _ _ h => h)
                    · refine Sp.step rfl rfl rfl rfl ?_
                      refine Sp.step rfl rfl rfl rfl ?_
                      refine Sp.step rfl rfl rfl rfl ?_
                      exact Sp.jmp (l0 := [some (.ref 60), some (.int x), some (.int x205.1), some (.int (x205.2.1 + 1)), none, none]) ⟨rfl, rfl, rfl, rfl, trivial⟩ (fun _ _ h => h)
                · refine Sp.step rfl rfl rfl rfl ?_
                  refine Sp.step rfl rfl rfl (mg_F (f := 19) rfl rfl rfl rfl) ?_
                  refine Sp.step rfl rfl rfl rfl ?_
                  refine Sp.step rfl rfl rfl rfl ?_
                  refine Sp.if2 rfl rfl rfl rfl (fun e270 => ?_) (fun e270 => ?_)
                  · refine Sp.step rfl rfl rfl rfl ?_
                    refine Sp.step rfl rfl rfl rfl ?_
                    refine Sp.guard (fun e271 => ?_)
                    refine Sp.step rfl rfl rfl (mst1 rfl rfl e271) ?_
                    refine Sp.step rfl rfl rfl rfl ?_
                    refine Sp.step rfl rfl rfl rfl ?_
                    refine Sp.step rfl rfl rfl rfl ?_
                    refine Sp.step rfl rfl rfl rfl ?_
                    refine Sp.step rfl rfl rfl rfl ?_
                    exact Sp.jmp (l0 := [some (.ref 60), some (.int x), some (.int 1), some (.int (x205.2.1 + 1)), none, none]) ⟨rfl, rfl, rfl, rfl, trivial⟩ (fun _ _ h => h)
                  · refine Sp.step rfl rfl rfl rfl ?_
                    refine Sp.step rfl rfl rfl rfl ?_
                    refine Sp.step rfl rfl rfl rfl ?_
                    refine Sp.step rfl rfl rfl (mst1 rfl rfl (by decide)) ?_
                    refine Sp.step rfl rfl rfl rfl ?_
                    refine Sp.step rfl rfl rfl rfl ?_
                    refine Sp.step rfl rfl rfl rfl ?_
                    refine Sp.step rfl rfl rfl rfl ?_
                    refine Sp.step rfl rfl rfl rfl ?_
                    exact Sp.jmp (l0 := [some (.ref 60), some (.int x), some (.int 1), some (.int (x205.2.1 + 1)), none, none]) ⟨rfl, rfl, rfl, rfl, trivial⟩ (fun _ _ h => h)
      · refine Sp.step rfl rfl rfl rfl ?_
        refine Sp.step rfl rfl rfl rfl ?_
        refine Sp.call rfl rfl rfl (mrecv (by decide) (by decide +kernel)) s_M_isStatic (fun x274 => ⟨_, _, ⟨rfl, rfl⟩, ?_⟩)
        refine Sp.bool (fun e275 => ?_) (fun e275 => ?_)
        · refine Sp.step rfl rfl rfl rfl ?_
          refine Sp.step rfl rfl rfl rfl ?_
          refine Sp.step rfl rfl rfl (mg_F (f := 16) rfl rfl rfl rfl) ?_
          refine Sp.step rfl rfl rfl rfl ?_
          refine Sp.guard (fun e277 => ?_)
          refine Sp.step rfl rfl rfl (mld rfl rfl (by decide) e277) ?_
          refine Sp.if1 rfl rfl rfl rfl (fun e278 => ?_) (fun e278 => ?_)
          · refine Sp.step rfl rfl rfl rfl ?_
            refine Sp.step rfl rfl rfl rfl ?_
            refine Sp.if2 rfl rfl rfl rfl (fun e279 => ?_) (fun e279 => ?_)
            · refine Sp.step rfl rfl rfl rfl ?_
              refine Sp.step rfl rfl rfl rfl ?_
              refine Sp.if2 rfl rfl rfl rfl (fun e280 => ?_) (fun e280 => ?_)
              · refine Sp.step rfl rfl rfl rfl ?_
                refine Sp.step rfl rfl rfl rfl ?_
                refine Sp.if2 rfl rfl rfl rfl (fun e281 => ?_) (fun e281 => ?_)
                · refine Sp.step rfl rfl rfl rfl ?_
                  refine Sp.step rfl rfl rfl rfl ?_
                  exact Sp.jmp (l0 := [some (.ref 60), some (.int x), some (.int x205.1), some (.int (x205.2.1 + 1)), none, none]) ⟨rfl, rfl, rfl, rfl, trivial⟩ (fun _ _ h => h)
                · refine Sp.step rfl rfl rfl rfl ?_
                  refine Sp.step rfl rfl rfl rfl ?_
                  refine Sp.callS rfl rfl rfl (mrecv (by decide) (by decide +kernel)) s_M_isClass ⟨rfl, rfl⟩ ?_
                  refine Sp.bool (fun e282 => ?_) (fun e282 => ?_)
                  · refine Sp.step rfl rfl rfl rfl ?_
                    refine Sp.step rfl rfl rfl rfl ?_
                    refine Sp.step rfl rfl rfl (mg_F (f := 17) rfl rfl rfl rfl) ?_
                    refine Sp.step rfl rfl rfl rfl ?_
                    refine Sp.guard (fun e284 => ?_)
                    refine Sp.step rfl rfl rfl (mld rfl rfl (by decide) e284) ?_
                    refine Sp.if1 rfl rfl rfl rfl (fun e285 => ?_) (fun e285 => ?_)
                    · refine Sp.step rfl rfl rfl rfl ?_
                      refine Sp.step rfl rfl rfl rfl ?_
                      exact Sp.jmp (l0 := [some (.ref 60), some (.int x), some (.int x205.1), some (.int (x205.2.1 + 1)), none, none]) ⟨rfl, rfl, rfl, rfl, trivial⟩ (fun _ _ h => h)
                    · refine Sp.step rfl rfl rfl rfl ?_
                      refine Sp.step rfl rfl rfl (mg_F (f := 17) rfl rfl rfl rfl) ?_
                      refine Sp.step rfl rfl rfl rfl ?_
                      refine Sp.step rfl rfl rfl rfl ?_
                      refine Sp.step rfl rfl rfl (mst1 rfl rfl e284) ?_
                      refine Sp.step rfl rfl rfl rfl ?_
                      refine Sp.step rfl rfl rfl rfl ?_
                      refine Sp.step rfl rfl rfl rfl ?_
                      refine Sp.step rfl rfl rfl rfl ?_
                      exact Sp.jmp (l0 := [some (.ref 60), some (.int x), some (.int 1), some (.int (x205.2.1 + 1)), none, none]) ⟨rfl, rfl, rfl, rfl, trivial⟩ (fun _ _ h => h)
                  · refine Sp.step rfl rfl rfl rfl ?_
                    refine Sp.step rfl rfl rfl rfl ?_
                    refine Sp.step rfl rfl rfl rfl ?_
                    exact Sp.jmp (l0 := [some (.ref 60), some (.int x), some (.int x205.1), some (.int (x205.2.1 + 1)), none, none]) ⟨rfl, rfl, rfl, rfl, trivial⟩ (fun _ _ h => h)
              · refine Sp.step rfl rfl rfl rfl ?_
                refine Sp.step rfl rfl rfl (mg_F (f := 19) rfl rfl rfl rfl) ?_
                refine Sp.step rfl rfl rfl rfl ?_
                refine Sp.step rfl rfl rfl rfl ?_
                refine Sp.piece (pe := 121) (mf := (fun (x289 : Int32) => [some (.ref 60), some (.int x), some (.int x205.1), some (.int x205.2.1), some (.int (x205.2.2.1 71 ((60 * x) + x205.2.1).toNatClampNeg)), some (.int (x205.2.2.1 72 ((60 * x) + x205.2.1).toNatClampNeg))])) (sf := (fun (x289 : Int32) => [.int x289, .ref 78])) (hf := (fun (x289 : Int32) => hS X x205.2.2)) ?_ (fun x289 => ?_)
                · refine Sp.if2 rfl rfl rfl rfl (fun e288 => ?_) (fun e288 => ?_)
                  · refine Sp.step rfl rfl rfl rfl ?_
                    exact Sp.jmp (l0 := [some (.ref 60), some (.int x), some (.int x205.1), some (.int x205.2.1), some (.int (x205.2.2.1 71 ((60 * x) + x205.2.1).toNatClampNeg)), some (.int (x205.2.2.1 72 ((60 * x) + x205.2.1).toNatClampNeg))]) ⟨rfl, rfl, rfl, rfl, rfl, rfl, trivial⟩ (fun _ _ h => h)
                  · refine Sp.step rfl rfl rfl rfl ?_
                    refine Sp.step rfl rfl rfl rfl ?_
                    exact Sp.jmp (l0 := [some (.ref 60), some (.int x), some (.int x205.1), some (.int x205.2.1), some (.int (x205.2.2.1 71 ((60 * x) + x205.2.1).toNatClampNeg)), some (.int (x205.2.2.1 72 ((60 * x) + x205.2.1).toNatClampNeg))]) ⟨rfl, rfl, rfl, rfl, rfl, rfl, trivial⟩ (fun _ _ h => h)
                · refine Sp.guard (fun e290 => ?_)
                  refine Sp.step rfl rfl rfl (mld rfl rfl (by decide) e290) ?_
                  refine Sp.if1 rfl rfl rfl rfl (fun e291 => ?_) (fun e291 => ?_)
                  · refine Sp.step rfl rfl rfl rfl ?_
                    refine Sp.step rfl rfl rfl rfl ?_
                    refine Sp.if2 rfl rfl rfl rfl (fun e292 => ?_) (fun e292 => ?_)
                    · refine Sp.step rfl rfl rfl rfl ?_
                      refine Sp.step rfl rfl rfl rfl ?_
                      exact Sp.jmp (l0 := [some (.ref 60), some (.int x), some (.int x205.1), some (.int (x205.2.1 + 1)), none, none]) ⟨rfl, rfl, rfl, rfl, trivial⟩ (fun _ _ h => h)
                    · refine Sp.step rfl rfl rfl rfl ?_
                      refine Sp.step rfl rfl rfl rfl ?_
                      refine Sp.callS rfl rfl rfl (mrecv (by decide) (by decide +kernel)) s_M_isClass ⟨rfl, rfl⟩ ?_
                      refine Sp.bool (fun e293 => ?_) (fun e293 => ?_)
                      · refine Sp.step rfl rfl rfl rfl ?_
                        refine Sp.step rfl rfl rfl rfl ?_
                        refine Sp.step rfl rfl rfl (mg_F (f := 17) rfl rfl rfl rfl) ?_
                        refine Sp.step rfl rfl rfl rfl ?_
                        refine Sp.guard (fun e295 => ?_)
                        refine Sp.step rfl rfl rfl (mld rfl rfl (by decide) e295) ?_
                        refine Sp.if1 rfl rfl rfl rfl (fun e296 => ?_) (fun e296 => ?_)
                        · refine Sp.step rfl rfl rfl rfl ?_
                          refine Sp.step rfl rfl rfl rfl ?_
                          exact Sp.jmp (l0 := [some (.ref 60), some (.int x), some (.int x205.1), some (.int (x205.2.1 + 1)), none, none]) ⟨rfl, rfl, rfl, rfl, trivial⟩ (fun _ _ h => h)
                        · refine Sp.step rfl rfl rfl rfl ?_
                          refine Sp.step rfl rfl rfl (mg_F (f := 17) rfl rfl rfl rfl) ?_
                          refine Sp.step rfl rfl rfl rfl ?_
                          refine Sp.step rfl rfl rfl rfl ?_
                          refine Sp.step rfl rfl rfl (mst1 rfl rfl e295) ?_
                          refine Sp.step rfl rfl rfl rfl ?_
                          refine Sp.step rfl rfl rfl rfl ?_
                          refine Sp.step rfl rfl rfl rfl ?_
                          refine Sp.step rfl rfl rfl rfl ?_
                          exact Sp.jmp (l0 := [some (.ref 60), some (.int x), some (.int 1), some (.int (x205.2.1 + 1)), none, none]) ⟨rfl, rfl, rfl, rfl, trivial⟩ (fun _ _ h => h)
                      · refine Sp.step rfl rfl rfl rfl ?_
                        refine Sp.step rfl rfl rfl rfl ?_
                        refine Sp.step rfl rfl rfl rfl ?_
                        exact Sp.jmp (l0 := [some (.ref 60), some (.int x), some (.int x205.1), some (.int (x205.2.1 + 1)), none, none]) ⟨rfl, rfl, rfl, rfl, trivial⟩ (fun _ _ h => h)
                  · refine Sp.step rfl rfl rfl rfl ?_
                    refine Sp.step rfl rfl rfl (mg_F (f := 19) rfl rfl rfl rfl) ?_
                    refine Sp.step rfl rfl rfl rfl ?_
                    refine Sp.step rfl rfl rfl rfl ?_
                    refine Sp.if2 rfl rfl rfl rfl (fun e299 => ?_) (fun e299 => ?_)
                    · refine Sp.step rfl rfl rfl rfl ?_
                      refine Sp.step rfl rfl rfl rfl ?_
                      refine Sp.guard (fun e300 => ?_)
                      refine Sp.step rfl rfl rfl (mst1 rfl rfl e300) ?_
                      refine Sp.step rfl rfl rfl rfl ?_
                      refine Sp.step rfl rfl rfl rfl ?_
                      refine Sp.step rfl rfl rfl rfl ?_
                      refine Sp.step rfl rfl rfl rfl ?_
                      refine Sp.step rfl rfl rfl rfl ?_
                      exact Sp.jmp (l0 := [some (.ref 60), some (.int x), some (.int 1), some (.int (x205.2.1 + 1)), none, none]) ⟨rfl, rfl, rfl, rfl, trivial⟩ (fun _ _ h => h)
                    · refine Sp.step rfl rfl rfl rfl ?_
                      refine Sp.step rfl rfl rfl rfl ?_
                      refine Sp.step rfl rfl rfl rfl ?_
                      refine Sp.step rfl rfl rfl (mst1 rfl rfl (by decide)) ?_
                      refine Sp.step rfl rfl rfl rfl ?_
                      refine Sp.step rfl rfl rfl rfl ?_
                      refine Sp.step rfl rfl rfl rfl ?_
                      refine Sp.step rfl rfl rfl rfl ?_
                      refine Sp.step rfl rfl rfl rfl ?_
                      exact Sp.jmp (l0 := [some (.ref 60), some (.int x), some (.int 1), some (.int (x205.2.1 + 1)), none, none]) ⟨rfl, rfl, rfl, rfl, trivial⟩ (fun _ _ h => h)
            · refine Sp.step rfl rfl rfl rfl ?_
              refine Sp.step rfl rfl rfl rfl ?_
              refine Sp.step rfl rfl rfl rfl ?_
              refine Sp.callP rfl rfl rfl rfl s_isIn (fun e303 => ?_) (fun e303 => ?_)
              · refine Sp.step rfl rfl rfl rfl ?_
                refine Sp.step rfl rfl rfl rfl ?_
                refine Sp.step rfl rfl rfl (mg_F (f := 19) rfl rfl rfl rfl) ?_
                refine Sp.step rfl rfl rfl rfl ?_
                refine Sp.step rfl rfl rfl rfl ?_
                refine Sp.piece (pe := 121) (mf := (fun (x306 : Int32) => [some (.ref 60), some (.int x), some (.int x205.1), some (.int x205.2.1), some (.int (x205.2.2.1 71 ((60 * x) + x205.2.1).toNatClampNeg)), some (.int (x205.2.2.1 72 ((60 * x) + x205.2.1).toNatClampNeg))])) (sf := (fun (x306 : Int32) => [.int x306, .ref 78])) (hf := (fun (x306 : Int32) => hS X x205.2.2)) ?_ (fun x306 => ?_)
                · refine Sp.if2 rfl rfl rfl rfl (fun e305 => ?_) (fun e305 => ?_)
                  · refine Sp.step rfl rfl rfl rfl ?_
                    exact Sp.jmp (l0 := [some (.ref 60), some (.int x), some (.int x205.1), some (.int x205.2.1), some (.int (x205.2.2.1 71 ((60 * x) + x205.2.1).toNatClampNeg)), some (.int (x205.2.2.1 72 ((60 * x) + x205.2.1).toNatClampNeg))]) ⟨rfl, rfl, rfl, rfl, rfl, rfl, trivial⟩ (fun _ _ h => h)
                  · refine Sp.step rfl rfl rfl rfl ?_
                    refine Sp.step rfl rfl rfl rfl ?_
                    exact Sp.jmp (l0 := [some (.ref 60), some (.int x), some (.int x205.1), some (.int x205.2.1), some (.int (x205.2.2.1 71 ((60 * x) + x205.2.1).toNatClampNeg)), some (.int (x205.2.2.1 72 ((60 * x) + x205.2.1).toNatClampNeg))]) ⟨rfl, rfl, rfl, rfl, rfl, rfl, trivial⟩ (fun _ _ h => h)
                · refine Sp.guard (fun e307 => ?_)
                  refine Sp.step rfl rfl rfl (mld rfl rfl (by decide) e307) ?_
                  refine Sp.if1 rfl rfl rfl rfl (fun e308 => ?_) (fun e308 => ?_)
                  · refine Sp.step rfl rfl rfl rfl ?_
                    refine Sp.step rfl rfl rfl rfl ?_
                    refine Sp.if2 rfl rfl rfl rfl (fun e309 => ?_) (fun e309 => ?_)
                    · refine Sp.step rfl rfl rfl rfl ?_
                      refine Sp.step rfl rfl rfl rfl ?_
                      exact Sp.jmp (l0 := [some (.ref 60), some (.int x), some (.int x205.1), some (.int (x205.2.1 + 1)), none, none]) ⟨rfl, rfl, rfl, rfl, trivial⟩ (fun _ _ h => h)
                    · refine Sp.step rfl rfl rfl rfl ?_
                      refine Sp.step rfl rfl rfl rfl ?_
                      refine Sp.callS rfl rfl rfl (mrecv (by decide) (by decide +kernel)) s_M_isClass ⟨rfl, rfl⟩ ?_
                      refine Sp.bool (fun e310 => ?_) (fun e310 => ?_)
                      · refine Sp.step rfl rfl rfl rfl ?_
                        refine Sp.step rfl rfl rfl rfl ?_
                        refine Sp.step rfl rfl rfl (mg_F (f := 17) rfl rfl rfl rfl) ?_
                        refine Sp.step rfl rfl rfl rfl ?_
                        refine Sp.guard (fun e312 => ?_)
                        refine Sp.step rfl rfl rfl (mld rfl rfl (by decide) e312) ?_
                        refine Sp.if1 rfl rfl rfl rfl (fun e313 => ?_) (fun e313 => ?_)
                        · refine Sp.step rfl rfl rfl rfl ?_
                          refine Sp.step rfl rfl rfl rfl ?_
                          exact Sp.jmp (l0 := [some (.ref 60), some (.int x), some (.int x205.1), some (.int (x205.2.1 + 1)), none, none]) ⟨rfl, rfl, rfl, rfl, trivial⟩ (fun _ _ h => h)
                        · refine Sp.step rfl rfl rfl rfl ?_
                          refine Sp.step rfl rfl rfl (mg_F (f := 17) rfl rfl rfl rfl) ?_
                          refine Sp.step rfl rfl rfl rfl ?_
                          refine Sp.step rfl rfl rfl rfl ?_
                          refine Sp.step rfl rfl rfl (mst1 rfl rfl e312) ?_
                          refine Sp.step rfl rfl rfl rfl ?_
                          refine Sp.step rfl rfl rfl rfl ?_
                          refine Sp.step rfl rfl rfl rfl ?_
                          refine Sp.step rfl rfl rfl rfl ?_
                          exact Sp.jmp (l0 := [some (.ref 60), some (.int x), some (.int 1), some (.int (x205.2.1 + 1)), none, none]) ⟨rfl, rfl, rfl, rfl, trivial⟩ (fun _ _ h => h)
                      · refine Sp.step rfl rfl rfl rfl ?_
                        refine Sp.step rfl rfl rfl rfl ?_
                        refine Sp.step rfl rfl rfl rfl ?_
                        exact Sp.jmp (l0 := [some (.ref 60), some (.int x), some (.int x205.1), some (.int (x205.2.1 + 1)), none, none]) ⟨rfl, rfl, rfl, rfl, trivial⟩ (fun _ _ h => h)
                  · refine Sp.step rfl rfl rfl rfl ?_
                    refine Sp.step rfl rfl rfl (mg_F (f := 19) rfl rfl rfl rfl) ?_
                    refine Sp.step rfl rfl rfl rfl ?_
                    refine Sp.step rfl rfl rfl rfl ?_
                    refine Sp.if2 rfl rfl rfl rfl (fun e316 => ?_) (fun e316 => ?_)
                    · refine Sp.step rfl rfl rfl rfl ?_
                      refine Sp.step rfl rfl rfl rfl ?_
                      refine Sp.step rfl rfl rfl (mst1 rfl rfl (ix_le (N := 7) rfl e303.1 e303.2)) ?_
                      refine Sp.step rfl rfl rfl rfl ?_
                      refine Sp.step rfl rfl rfl rfl ?_
                      refine Sp.step rfl rfl rfl rfl ?_
                      refine Sp.step rfl rfl rfl rfl ?_
                      refine Sp.step rfl rfl rfl rfl ?_
                      exact Sp.jmp (l0 := [some (.ref 60), some (.int x), some (.int 1), some (.int (x205.2.1 + 1)), none, none]) ⟨rfl, rfl, rfl, rfl, trivial⟩ (fun _ _ h => h)
                    · refine Sp.step rfl rfl rfl rfl ?_
                      refine Sp.step rfl rfl rfl rfl ?_
                      refine Sp.step rfl rfl rfl rfl ?_
                      refine Sp.step rfl rfl rfl (mst1 rfl rfl (by decide)) ?_
                      refine Sp.step rfl rfl rfl rfl ?_
                      refine Sp.step rfl rfl rfl rfl ?_
                      refine Sp.step rfl rfl rfl rfl ?_
                      refine Sp.step rfl rfl rfl rfl ?_
                      refine Sp.step rfl rfl rfl rfl ?_
                      exact Sp.jmp (l0 := [some (.ref 60), some (.int x), some (.int 1), some (.int (x205.2.1 + 1)), none, none]) ⟨rfl, rfl, rfl, rfl, trivial⟩ (fun _ _ h => h)
              · refine Sp.step rfl rfl rfl rfl ?_
                refine Sp.step rfl rfl rfl rfl ?_
                refine Sp.step rfl rfl rfl rfl ?_
                refine Sp.if2 rfl rfl rfl rfl (fun e320 => ?_) (fun e320 => ?_)
                · refine Sp.step rfl rfl rfl rfl ?_
                  refine Sp.step rfl rfl rfl rfl ?_
                  refine Sp.if2 rfl rfl rfl rfl (fun e321 => ?_) (fun e321 => ?_)
                  · refine Sp.step rfl rfl rfl rfl ?_
                    refine Sp.step rfl rfl rfl rfl ?_
                    exact Sp.jmp (l0 := [some (.ref 60), some (.int x), some (.int x205.1), some (.int (x205.2.1 + 1)), none, none]) ⟨rfl, rfl, rfl, rfl, trivial⟩ (fun _ _ h => h)
                  · refine Sp.step rfl rfl rfl rfl ?_
                    refine Sp.step rfl rfl rfl rfl ?_
                    refine Sp.callS rfl rfl rfl (mrecv (by decide) (by decide +kernel)) s_M_isClass ⟨rfl, rfl⟩ ?_
                    refine Sp.bool (fun e322 => ?_) (fun e322 => ?_)
                    · refine Sp.step rfl rfl rfl rfl ?_
                      refine Sp.step rfl rfl rfl rfl ?_
                      refine Sp.step rfl rfl rfl (mg_F (f := 17) rfl rfl rfl rfl) ?_
                      refine Sp.step rfl rfl rfl rfl ?_
                      refine Sp.guard (fun e324 => ?_)
                      refine Sp.step rfl rfl rfl (mld rfl rfl (by decide) e324) ?_
                      refine Sp.if1 rfl rfl rfl rfl (fun e325 => ?_) (fun e325 => ?_)
                      · refine Sp.step rfl rfl rfl rfl ?_
                        refine Sp.step rfl rfl rfl rfl ?_
                        exact Sp.jmp (l0 := [some (.ref 60), some (.int x), some (.int x205.1), some (.int (x205.2.1 + 1)), none, none]) ⟨rfl, rfl, rfl, rfl, trivial⟩ (fun _ _ h => h)
                      · refine Sp.step rfl rfl rfl rfl ?_
                        refine Sp.step rfl rfl rfl (mg_F (f := 17) rfl rfl rfl rfl) ?_
                        refine Sp.step rfl rfl rfl rfl ?_
                        refine Sp.step rfl rfl rfl rfl ?_
                        refine Sp.step rfl rfl rfl (mst1 rfl rfl e324) ?_
                        refine Sp.step rfl rfl rfl rfl ?_
                        refine Sp.step rfl rfl rfl rfl ?_
                        refine Sp.step rfl rfl rfl rfl ?_
                        refine Sp.step rfl rfl rfl rfl ?_
                        exact Sp.jmp (l0 := [some (.ref 60), some (.int x), some (.int 1), some (.int (x205.2.1 + 1)), none, none]) ⟨rfl, rfl, rfl, rfl, trivial⟩ (fun _ _ h => h)
                    · refine Sp.step rfl rfl rfl rfl ?_
                      refine Sp.step rfl rfl rfl rfl ?_
                      refine Sp.step rfl rfl rfl rfl ?_
                      exact Sp.jmp (l0 := [some (.ref 60), some (.int x), some (.int x205.1), some (.int (x205.2.1 + 1)), none, none]) ⟨rfl, rfl, rfl, rfl, trivial⟩ (fun _ _ h => h)
                · refine Sp.step rfl rfl rfl rfl ?_
                  refine Sp.step rfl rfl rfl (mg_F (f := 19) rfl rfl rfl rfl) ?_
                  refine Sp.step rfl rfl rfl rfl ?_
                  refine Sp.step rfl rfl rfl rfl ?_
                  refine Sp.piece (pe := 121) (mf := (fun (x329 : Int32) => [some (.ref 60), some (.int x), some (.int x205.1), some (.int x205.2.1), some (.int (x205.2.2.1 71 ((60 * x) + x205.2.1).toNatClampNeg)), some (.int (x205.2.2.1 72 ((60 * x) + x205.2.1).toNatClampNeg))])) (sf := (fun (x329 : Int32) => [.int x329, .ref 78])) (hf := (fun (x329 : Int32) => hS X x205.2.2)) ?_ (fun x329 => ?_)
                  · refine Sp.if2 rfl rfl rfl rfl (fun e328 => ?_) (fun e328 => ?_)
                    · refine Sp.step rfl rfl rfl rfl ?_
                      exact Sp.jmp (l0 := [some (.ref 60), some (.int x), some (.int x205.1), some (.int x205.2.1), some (.int (x205.2.2.1 71 ((60 * x) + x205.2.1).toNatClampNeg)), some (.int (x205.2.2.1 72 ((60 * x) + x205.2.1).toNatClampNeg))]) ⟨rfl, rfl, rfl, rfl, rfl, rfl, trivial⟩ (fun _ _ h => h)
                    · refine Sp.step rfl rfl rfl rfl ?_
                      refine Sp.step rfl rfl rfl rfl ?_
                      exact Sp.jmp (l0 := [some (.ref 60), some (.int x), some (.int x205.1), some (.int x205.2.1), some (.int (x205.2.2.1 71 ((60 * x) + x205.2.1).toNatClampNeg)), some (.int (x205.2.2.1 72 ((60 * x) + x205.2.1).toNatClampNeg))]) ⟨rfl, rfl, rfl, rfl, rfl, rfl, trivial⟩ (fun _ _ h => h)
                  · refine Sp.guard (fun e330 => ?_)
                    refine Sp.step rfl rfl rfl (mld rfl rfl (by decide) e330) ?_
                    refine Sp.if1 rfl rfl rfl rfl (fun e331 => ?_) (fun e331 => ?_)
                    · refine Sp.step rfl rfl rfl rfl ?_
                      refine Sp.step rfl rfl rfl rfl ?_
                      refine Sp.if2 rfl rfl rfl rfl (fun e332 => ?_) (fun e332 => ?_)
                      · refine Sp.step rfl rfl rfl rfl ?_
                        refine Sp.step rfl rfl rfl rfl ?_
                        exact Sp.jmp (l0 := [some (.ref 60), some (.int x), some (.int x205.1), some (.int (x205.2.1 + 1)), none, none]) ⟨rfl, rfl, rfl, rfl, trivial⟩ (fun _ _ h => h)
                      · refine Sp.step rfl rfl rfl rfl ?_
                        refine Sp.step rfl rfl rfl rfl ?_
                        refine Sp.callS rfl rfl rfl (mrecv (by decide) (by decide +kernel)) s_M_isClass ⟨rfl, rfl⟩ ?_
                        refine Sp.bool (fun e333 => ?_) (fun e333 => ?_)
                        · refine Sp.step rfl rfl rfl rfl ?_
                          refine Sp.step rfl rfl rfl rfl ?_
                          refine Sp.step rfl rfl rfl (mg_F (f := 17) rfl rfl rfl rfl) ?_
                          refine Sp.step rfl rfl rfl rfl ?_
                          refine Sp.guard (fun e335 => ?_)
                          refine Sp.step rfl rfl rfl (mld rfl rfl (by decide) e335) ?_
                          refine Sp.if1 rfl rfl rfl rfl (fun e336 => ?_) (fun e336 => ?_)
                          · refine Sp.step rfl rfl rfl rfl ?_
                            refine Sp.step rfl rfl rfl rfl ?_
                            exact Sp.jmp (l0 := [some (.ref 60), some (.int x), some (.int x205.1), some (.int (x205.2.1 + 1)), none, none]) ⟨rfl, rfl, rfl, rfl, trivial⟩ (fun _ _ h => h)
                          · refine Sp.step rfl rfl rfl rfl ?_
                            refine Sp.step rfl rfl rfl (mg_F (f := 17) rfl rfl rfl rfl) ?_
                            refine Sp.step rfl rfl rfl rfl ?_
                            refine Sp.step rfl rfl rfl rfl ?_
                            refine Sp.step rfl rfl rfl (mst1 rfl rfl e335) ?_
                            refine Sp.step rfl rfl rfl rfl ?_
                            refine Sp.step rfl rfl rfl rfl ?_
                            refine Sp.step rfl rfl rfl rfl ?_
                            refine Sp.step rfl rfl rfl rfl ?_
                            exact Sp.jmp (l0 := [some (.ref 60), some (.int x), some (.int 1), some (.int (x205.2.1 + 1)), none, none]) ⟨rfl, rfl, rfl, rfl, trivial⟩ (fun _ _ h => h)
                        · refine Sp.step rfl rfl rfl rfl ?_
                          refine Sp.step rfl rfl rfl rfl ?_
                          refine Sp.step rfl rfl rfl rfl ?_
                          exact Sp.jmp (l0 := [some (.ref 60), some (.int x), some (.int x205.1), some (.int (x205.2.1 + 1)), none, none]) ⟨rfl, rfl, rfl, rfl, trivial⟩ (fun _ _ h => h)
                    · refine Sp.step rfl rfl rfl rfl ?_
                      refine Sp.step rfl rfl rfl (mg_F (f := 19) rfl rfl rfl rfl) ?_
                      refine Sp.step rfl rfl rfl rfl ?_
                      refine Sp.step rfl rfl rfl rfl ?_
                      refine Sp.if2 rfl rfl rfl rfl (fun e339 => ?_) (fun e339 => ?_)
                      · refine Sp.step rfl rfl rfl rfl ?_
                        refine Sp.step rfl rfl rfl rfl ?_
                        refine Sp.guard (fun e340 => ?_)
                        refine Sp.step rfl rfl rfl (mst1 rfl rfl e340) ?_
                        refine Sp.step rfl rfl rfl rfl ?_
                        refine Sp.step rfl rfl rfl rfl ?_
                        refine Sp.step rfl rfl rfl rfl ?_
                        refine Sp.step rfl rfl rfl rfl ?_
                        refine Sp.step rfl rfl rfl rfl ?_
                        exact Sp.jmp (l0 := [some (.ref 60), some (.int x), some (.int 1), some (.int (x205.2.1 + 1)), none, none]) ⟨rfl, rfl, rfl, rfl, trivial⟩ (fun _ _ h => h)
                      · refine Sp.step rfl rfl rfl rfl ?_
                        refine Sp.step rfl rfl rfl rfl ?_
                        refine Sp.step rfl rfl rfl rfl ?_
                        refine Sp.step rfl rfl rfl (mst1 rfl rfl (by decide)) ?_
                        refine Sp.step rfl rfl rfl rfl ?_
                        refine Sp.step rfl rfl rfl rfl ?_
                        refine Sp.step rfl rfl rfl rfl ?_
                        refine Sp.step rfl rfl rfl rfl ?_
                        refine Sp.step rfl rfl rfl rfl ?_
                        exact Sp.jmp (l0 := [some (.ref 60), some (.int x), some (.int 1), some (.int (x205.2.1 + 1)), none, none]) ⟨rfl, rfl, rfl, rfl, trivial⟩ (fun _ _ h => h)
          · refine Sp.step rfl rfl rfl rfl ?_
            refine Sp.step rfl rfl rfl (mg_F (f := 16) rfl rfl rfl rfl) ?_
            refine Sp.step rfl rfl rfl rfl ?_
            refine Sp.step rfl rfl rfl rfl ?_
            refine Sp.step rfl rfl rfl (mst1 rfl rfl e277) ?_
            refine Sp.step rfl rfl rfl rfl ?_
            refine Sp.step rfl rfl rfl rfl ?_
            refine Sp.step rfl rfl rfl rfl ?_
            refine Sp.step rfl rfl rfl rfl ?_
            refine Sp.step rfl rfl rfl rfl ?_
            exact Sp.jmp (l0 := [some (.ref 60), some (.int x), some (.int 1), some (.int (x205.2.1 + 1)), none, none]) ⟨rfl, rfl, rfl, rfl, trivial⟩ (fun _ _ h => h)
        · refine Sp.step rfl rfl rfl rfl ?_
          refine Sp.step rfl rfl rfl rfl ?_
          refine Sp.step rfl rfl rfl rfl ?_
          refine Sp.if2 rfl rfl rfl rfl (fun e345 => ?_) (fun e345 => ?_)
          · refine Sp.step rfl rfl rfl rfl ?_
            refine Sp.step rfl rfl rfl rfl ?_
            refine Sp.if2 rfl rfl rfl rfl (fun e346 => ?_) (fun e346 => ?_)
            · refine Sp.step rfl rfl rfl rfl ?_
              refine Sp.step rfl rfl rfl rfl ?_
              refine Sp.if2 rfl rfl rfl rfl (fun e347 => ?_) (fun e347 => ?_)
              · refine Sp.step rfl rfl rfl rfl ?_
                refine Sp.step rfl rfl rfl rfl ?_
                exact Sp.jmp (l0 := [some (.ref 60), some (.int x), some (.int x205.1), some (.int (x205.2.1 + 1)), none, none]) ⟨rfl, rfl, rfl, rfl, trivial⟩ (fun _ _ h => h)
              · refine Sp.step rfl rfl rfl rfl ?_
                refine Sp.step rfl rfl rfl rfl ?_
                refine Sp.callS rfl rfl rfl (mrecv (by decide) (by decide +kernel)) s_M_isClass ⟨rfl, rfl⟩ ?_
                refine Sp.bool (fun e348 => ?_) (fun e348 => ?_)
                · refine Sp.step rfl rfl rfl rfl ?_
                  refine Sp.step rfl rfl rfl rfl ?_
                  refine Sp.step rfl rfl rfl (mg_F (f := 17) rfl rfl rfl rfl) ?_
                  refine Sp.step rfl rfl rfl rfl ?_
                  refine Sp.guard (fun e350 => ?_)
                  refine Sp.step rfl rfl rfl (mld rfl rfl (by decide) e350) ?_
                  refine Sp.if1 rfl rfl rfl rfl (fun e351 => ?_) (fun e351 => ?_)
                  · refine Sp.step rfl rfl rfl rfl ?_
                    refine Sp.step rfl rfl rfl rfl ?_
                    exact Sp.jmp (l0 := [some (.ref 60), some (.int x), some (.int x205.1), some (.int (x205.2.1 + 1)), none, none]) ⟨rfl, rfl, rfl, rfl, trivial⟩ (fun _ _ h => h)
                  · refine Sp.step rfl rfl rfl rfl ?_
                    refine Sp.step rfl rfl rfl (mg_F (f := 17) rfl rfl rfl rfl) ?_
                    refine Sp.step rfl rfl rfl rfl ?_
                    refine Sp.step rfl rfl rfl rfl ?_
                    refine Sp.step rfl rfl rfl (mst1 rfl rfl e350) ?_
                    refine Sp.step rfl rfl rfl rfl ?_
                    refine Sp.step rfl rfl rfl rfl ?_
                    refine Sp.step rfl rfl rfl rfl ?_
                    refine Sp.step rfl rfl rfl rfl ?_
                    exact Sp.jmp (l0 := [some (.ref 60), some (.int x), some (.int 1), some (.int (x205.2.1 + 1)), none, none]) ⟨rfl, rfl, rfl, rfl, trivial⟩ (fun _ _ h => h)
                · refine Sp.step rfl rfl rfl rfl ?_
                  refine Sp.step rfl rfl rfl rfl ?_
                  refine Sp.step rfl rfl rfl rfl ?_
                  exact Sp.jmp (l0 := [some (.ref 60), some (.int x), some (.int x205.1), some (.int (x205.2.1 + 1)), none, none]) ⟨rfl, rfl, rfl, rfl, trivial⟩ (fun _ _ h => h)
            · refine Sp.step rfl rfl rfl rfl ?_
              refine Sp.step rfl rfl rfl (mg_F (f := 19) rfl rfl rfl rfl) ?_
              refine Sp.step rfl rfl rfl rfl ?_
              refine Sp.step rfl rfl rfl rfl ?_
              refine Sp.piece (pe := 121) (mf := (fun (x355 : Int32) => [some (.ref 60), some (.int x), some (.int x205.1), some (.int x205.2.1), some (.int (x205.2.2.1 71 ((60 * x) + x205.2.1).toNatClampNeg)), some (.int (x205.2.2.1 72 ((60 * x) + x205.2.1).toNatClampNeg))])) (sf := (fun (x355 : Int32) => [.int x355, .ref 78])) (hf := (fun (x355 : Int32) => hS X x205.2.2)) ?_ (fun x355 => ?_)
              · refine Sp.if2 rfl rfl rfl rfl (fun e354 => ?_) (fun e354 => ?_)
                · refine Sp.step rfl rfl rfl rfl ?_
                  exact Sp.jmp (l0 := [some (.ref 60), some (.int x), some (.int x205.1), some (.int x205.2.1), some (.int (x205.2.2.1 71 ((60 * x) + x205.2.1).toNatClampNeg)), some (.int (x205.2.2.1 72 ((60 * x) + x205.2.1).toNatClampNeg))]) ⟨rfl, rfl, rfl, rfl, rfl, rfl, trivial⟩ (fun _ _ h => h)
                · refine Sp.step rfl rfl rfl rfl ?_
                  refine Sp.step rfl rfl rfl rfl ?_
                  exact Sp.jmp (l0 := [some (.ref 60), some (.int x), some (.int x205.1), some (.int x205.2.1), some (.int (x205.2.2.1 71 ((60 * x) + x205.2.1).toNatClampNeg)), some (.int (x205.2.2.1 72 ((60 * x) + x205.2.1).toNatClampNeg))]) ⟨rfl, rfl, rfl, rfl, rfl, rfl, trivial⟩ (fun _ _ h => h)
              · refine Sp.guard (fun e356 => ?_)
                refine Sp.step rfl rfl rfl (mld rfl rfl (by decide) e356) ?_
                refine Sp.if1 rfl rfl rfl rfl (fun e357 => ?_) (fun e357 => ?_)
                · refine Sp.step rfl rfl rfl rfl ?_
                  refine Sp.step rfl rfl rfl rfl ?_
                  refine Sp.if2 rfl rfl rfl rfl (fun e358 => ?_) (fun e358 => ?_)
                  · refine Sp.step rfl rfl rfl rfl ?_
                    refine Sp.step rfl rfl rfl rfl ?_
                    exact Sp.jmp (l0 := [some (.ref 60), some (.int x), some (.int x205.1), some (.int (x205.2.1 + 1)), none, none]) ⟨rfl, rfl, rfl, rfl, trivial⟩ (fun _ _ h => h)
                  · refine Sp.step rfl rfl rfl rfl ?_
                    refine Sp.step rfl rfl rfl rfl ?_
                    refine Sp.callS rfl rfl rfl (mrecv (by decide) (by decide +kernel)) s_M_isClass ⟨rfl, rfl⟩ ?_
                    refine Sp.bool (fun e359 => ?_) (fun e359 => ?_)
                    · refine Sp.step rfl rfl rfl rfl ?_
                      refine Sp.step rfl rfl rfl rfl ?_
                      refine Sp.step rfl rfl rfl (mg_F (f := 17) rfl rfl rfl rfl) ?_
                      refine Sp.step rfl rfl rfl rfl ?_
                      refine Sp.guard (fun e361 => ?_)
                      refine Sp.step rfl rfl rfl (mld rfl rfl (by decide) e361) ?_
                      refine Sp.if1 rfl rfl rfl rfl (fun e362 => ?_) (fun e362 => ?_)
                      · refine Sp.step rfl rfl rfl rfl ?_
                        refine Sp.step rfl rfl rfl rfl ?_
                        exact Sp.jmp (l0 := [some (.ref 60), some (.int x), some (.int x205.1), some (.int (x205.2.1 + 1)), none, none]) ⟨rfl, rfl, rfl, rfl, trivial⟩ (fun _ _ h => h)
                      · refine Sp.step rfl rfl rfl rfl ?_
                        refine Sp.step rfl rfl rfl (mg_F (f := 17) rfl rfl rfl rfl) ?_
                        refine Sp.step rfl rfl rfl rfl ?_
                        refine Sp.step rfl rfl rfl rfl ?_
                        refine Sp.step rfl rfl rfl (mst1 rfl rfl e361) ?_
                        refine Sp.step rfl rfl rfl rfl ?_
                        refine Sp.step rfl rfl rfl rfl ?_
                        refine Sp.step rfl rfl rfl rfl ?_
                        refine Sp.step rfl rfl rfl rfl ?_
                        exact Sp.jmp (l0 := [some (.ref 60), some (.int x), some (.int 1), some (.int (x205.2.1 + 1)), none, none]) ⟨rfl, rfl, rfl, rfl, trivial⟩ (fun _ _ h => h)
                    · refine Sp.step rfl rfl rfl rfl ?_
                      refine Sp.step rfl rfl rfl rfl ?_
                      refine Sp.step rfl rfl rfl rfl ?_
                      exact Sp.jmp (l0 := [some (.ref 60), some (.int x), some (.int x205.1), some (.int (x205.2.1 + 1)), none, none]) ⟨rfl, rfl, rfl, rfl, trivial⟩ (fun _ _ h => h)
                · refine Sp.step rfl rfl rfl rfl ?_
                  refine Sp.step rfl rfl rfl (mg_F (f := 19) rfl rfl rfl rfl) ?_
                  refine Sp.step rfl rfl rfl rfl ?_
                  refine Sp.step rfl rfl rfl rfl ?_
                  refine Sp.if2 rfl rfl rfl rfl (fun e365 => ?_) (fun e365 => ?_)
                  · refine Sp.step rfl rfl rfl rfl ?_
                    refine Sp.step rfl rfl rfl rfl ?_
                    refine Sp.guard (fun e366 => ?_)
                    refine Sp.step rfl rfl rfl (mst1 rfl rfl e366) ?_
                    refine Sp.step rfl rfl rfl rfl ?_
                    refine Sp.step rfl rfl rfl rfl ?_
                    refine Sp.step rfl rfl rfl rfl ?_
                    refine Sp.step rfl rfl rfl rfl ?_
                    refine Sp.step rfl rfl rfl rfl ?_
                    exact Sp.jmp (l0 := [some (.ref 60), some (.int x), some (.int 1), some (.int (x205.2.1 + 1)), none, none]) ⟨rfl, rfl, rfl, rfl, trivial⟩ (fun _ _ h => h)
                  · refine Sp.step rfl rfl rfl rfl ?_
                    refine Sp.step rfl rfl rfl rfl ?_
                    refine Sp.step rfl rfl rfl rfl ?_
                    refine Sp.step rfl rfl rfl (mst1 rfl rfl (by decide)) ?_
                    refine Sp.step rfl rfl rfl rfl ?_
                    refine Sp.step rfl rfl rfl rfl ?_
                    refine Sp.step rfl rfl rfl rfl ?_
                    refine Sp.step rfl rfl rfl rfl ?_
                    refine Sp.step rfl rfl rfl rfl ?_
                    exact Sp.jmp (l0 := [some (.ref 60), some (.int x), some (.int 1), some (.int (x205.2.1 + 1)), none, none]) ⟨rfl, rfl, rfl, rfl, trivial⟩ (fun _ _ h => h)
          · refine Sp.step rfl rfl rfl rfl ?_
            refine Sp.step rfl rfl rfl rfl ?_
            refine Sp.step rfl rfl rfl rfl ?_
            refine Sp.callP rfl rfl rfl rfl s_isIn (fun e369 => ?_) (fun e369 => ?_)
            · refine Sp.step rfl rfl rfl rfl ?_
              refine Sp.step rfl rfl rfl rfl ?_
              refine Sp.step rfl rfl rfl (mg_F (f := 19) rfl rfl rfl rfl) ?_
              refine Sp.step rfl rfl rfl rfl ?_
              refine Sp.step rfl rfl rfl rfl ?_
              refine Sp.piece (pe := 121) (mf := (fun (x372 : Int32) => [some (.ref 60), some (.int x), some (.int x205.1), some (.int x205.2.1), some (.int (x205.2.2.1 71 ((60 * x) + x205.2.1).toNatClampNeg)), some (.int (x205.2.2.1 72 ((60 * x) + x205.2.1).toNatClampNeg))])) (sf := (fun (x372 : Int32) => [.int x372, .ref 78])) (hf := (fun (x372 : Int32) => hS X x205.2.2)) ?_ (fun x372 => ?_)
              · refine Sp.if2 rfl rfl rfl rfl (fun e371 => ?_) (fun e371 => ?_)
                · refine Sp.step rfl rfl rfl rfl ?_
                  exact Sp.jmp (l0 := [some (.ref 60), some (.int x), some (.int x205.1), some (.int x205.2.1), some (.int (x205.2.2.1 71 ((60 * x) + x205.2.1).toNatClampNeg)), some (.int (x205.2.2.1 72 ((60 * x) + x205.2.1).toNatClampNeg))]) ⟨rfl, rfl, rfl, rfl, rfl, rfl, trivial⟩ (fun _ _ h => h)
                · refine Sp.step rfl rfl rfl rfl ?_
                  refine Sp.step rfl rfl rfl rfl ?_
                  exact Sp.jmp (l0 := [some (.ref 60), some (.int x), some (.int x205.1), some (.int x205.2.1), some (.int (x205.2.2.1 71 ((60 * x) + x205.2.1).toNatClampNeg)), some (.int (x205.2.2.1 72 ((60 * x) + x205.2.1).toNatClampNeg))]) ⟨rfl, rfl, rfl, rfl, rfl, rfl, trivial⟩ (fun _ _ h => h)
              · refine Sp.guard (fun e373 => ?_)
                refine Sp.step rfl rfl rfl (mld rfl rfl (by decide) e373) ?_
                refine Sp.if1 rfl rfl rfl rfl (fun e374 => ?_) (fun e374 => ?_)
                · refine Sp.step rfl rfl rfl rfl ?_
                  refine Sp.step rfl rfl rfl rfl ?_
                  refine Sp.if2 rfl rfl rfl rfl (fun e375 => ?_) (fun e375 => ?_)
                  · refine Sp.step rfl rfl rfl rfl ?_
                    refine Sp.step rfl rfl rfl rfl ?_
                    exact Sp.jmp (l0 := [some (.ref 60), some (.int x), some (.int x205.1), some (.int (x205.2.1 + 1)), none, none]) ⟨rfl, rfl, rfl, rfl, trivial⟩ (fun _ _ h => h)
                  · refine Sp.step rfl rfl rfl rfl ?_
                    refine Sp.step rfl rfl rfl rfl ?_
                    refine Sp.callS rfl rfl rfl (mrecv (by decide) (by decide +kernel)) s_M_isClass ⟨rfl, rfl⟩ ?_
                    refine Sp.bool (fun e376 => ?_) (fun e376 => ?_)
                    · refine Sp.step rfl rfl rfl rfl ?_
                      refine Sp.step rfl rfl rfl rfl ?_
                      refine Sp.step rfl rfl rfl (mg_F (f := 17) rfl rfl rfl rfl) ?_
                      refine Sp.step rfl rfl rfl rfl ?_
                      refine Sp.guard (fun e378 => ?_)
                      refine Sp.step rfl rfl rfl (mld rfl rfl (by decide) e378) ?_
                      refine Sp.if1 rfl rfl rfl rfl (fun e379 => ?_) (fun e379 => ?_)
                      · refine Sp.step rfl rfl rfl rfl ?_
                        refine Sp.step rfl rfl rfl rfl ?_
                        exact Sp.jmp (l0 := [some (.ref 60), some (.int x), some (.int x205.1), some (.int (x205.2.1 + 1)), none, none]) ⟨rfl, rfl, rfl, rfl, trivial⟩ (fun _ _ h => h)
                      · refine Sp.step rfl rfl rfl rfl ?_
                        refine Sp.step rfl rfl rfl (mg_F (f := 17) rfl rfl rfl rfl) ?_
                        refine Sp.step rfl rfl rfl rfl ?_
                        refine Sp.step rfl rfl rfl rfl ?_
                        refine Sp.step rfl rfl rfl (mst1 rfl rfl e378) ?_
                        refine Sp.step rfl rfl rfl rfl ?_
                        refine Sp.step rfl rfl rfl rfl ?_
                        refine Sp.step rfl rfl rfl rfl ?_
                        refine Sp.step rfl rfl rfl rfl ?_
                        exact Sp.jmp (l0 := [some (.ref 60), some (.int x), some (.int 1), some (.int (x205.2.1 + 1)), none, none]) ⟨rfl, rfl, rfl, rfl, trivial⟩ (fun _ _ h => h)
                    · refine Sp.step rfl rfl rfl rfl ?_
                      refine Sp.step rfl rfl rfl rfl ?_
                      refine Sp.step rfl rfl rfl rfl ?_
                      exact Sp.jmp (l0 := [some (.ref 60), some (.int x), some (.int x205.1), some (.int (x205.2.1 + 1)), none, none]) ⟨rfl, rfl, rfl, rfl, trivial⟩ (fun _ _ h => h)
                · refine Sp.step rfl rfl rfl rfl ?_
                  refine Sp.step rfl rfl rfl (mg_F (f := 19) rfl rfl rfl rfl) ?_
                  refine Sp.step rfl rfl rfl rfl ?_
                  refine Sp.step rfl rfl rfl rfl ?_
                  refine Sp.if2 rfl rfl rfl rfl (fun e382 => ?_) (fun e382 => ?_)
                  · refine Sp.step rfl rfl rfl rfl ?_
                    refine Sp.step rfl rfl rfl rfl ?_
                    refine Sp.step rfl rfl rfl (mst1 rfl rfl (ix_le (N := 7) rfl e369.1 e369.2)) ?_
                    refine Sp.step rfl rfl rfl rfl ?_
                    refine Sp.step rfl rfl rfl rfl ?_
                    refine Sp.step rfl rfl rfl rfl ?_
                    refine Sp.step rfl rfl rfl rfl ?_
                    refine Sp.step rfl rfl rfl rfl ?_
                    exact Sp.jmp (l0 := [some (.ref 60), some (.int x), some (.int 1), some (.int (x205.2.1 + 1)), none, none]) ⟨rfl, rfl, rfl, rfl, trivial⟩ (fun _ _ h => h)
                  · refine Sp.step rfl rfl rfl rfl ?_
                    refine Sp.step rfl rfl rfl rfl ?_
                    refine Sp.step rfl rfl rfl rfl ?_
                    refine Sp.step rfl rfl rfl (mst1 rfl rfl (by decide)) ?_
                    refine Sp.step rfl rfl rfl rfl ?_
                    refine Sp.step rfl rfl rfl rfl ?_
                    refine Sp.step rfl rfl rfl rfl ?_
                    refine Sp.step rfl rfl rfl rfl ?_
                    refine Sp.step rfl rfl rfl rfl ?_
                    exact Sp.jmp (l0 := [some (.ref 60), some (.int x), some (.int 1), some (.int (x205.2.1 + 1)), none, none]) ⟨rfl, rfl, rfl, rfl, trivial⟩ (fun _ _ h => h)
            · refine Sp.step rfl rfl rfl rfl ?_
              refine Sp.step rfl rfl rfl rfl ?_
              refine Sp.step rfl rfl rfl rfl ?_
              refine Sp.if2 rfl rfl rfl rfl (fun e386 => ?_) (fun e386 => ?_)
              · refine Sp.step rfl rfl rfl rfl ?_
                refine Sp.step rfl rfl rfl rfl ?_
                refine Sp.if2 rfl rfl rfl rfl (fun e387 => ?_) (fun e387 => ?_)
                · refine Sp.step rfl rfl rfl rfl ?_
                  refine Sp.step rfl rfl rfl rfl ?_
                  exact Sp.jmp (l0 := [some (.ref 60), some (.int x), some (.int x205.1), some (.int (x205.2.1 + 1)), none, none]) ⟨rfl, rfl, rfl, rfl, trivial⟩ (fun _ _ h => h)
                · refine Sp.step rfl rfl rfl rfl ?_
                  refine Sp.step rfl rfl rfl rfl ?_
                  refine Sp.callS rfl rfl rfl (mrecv (by decide) (by decide +kernel)) s_M_isClass ⟨rfl, rfl⟩ ?_
                  refine Sp.bool (fun e388 => ?_) (fun e388 => ?_)
                  · refine Sp.step rfl rfl rfl rfl ?_
                    refine Sp.step rfl rfl rfl rfl ?_
                    refine Sp.step rfl rfl rfl (mg_F (f := 17) rfl rfl rfl rfl) ?_
                    refine Sp.step rfl rfl rfl rfl ?_
                    refine Sp.guard (fun e390 => ?_)
                    refine Sp.step rfl rfl rfl (mld rfl rfl (by decide) e390) ?_
                    refine Sp.if1 rfl rfl rfl rfl (fun e391 => ?_) (fun e391 => ?_)
                    · refine Sp.step rfl rfl rfl rfl ?_
                      refine Sp.step rfl rfl rfl rfl ?_
                      exact Sp.jmp (l0 := [some (.ref 60), some (.int x), some (.int x205.1), some (.int (x205.2.1 + 1)), none, none]) ⟨rfl, rfl, rfl, rfl, trivial⟩ (fun _ _ h => h)
                    · refine Sp.step rfl rfl rfl rfl ?_
                      refine Sp.step rfl rfl rfl (mg_F (f := 17) rfl rfl rfl rfl) ?_
                      refine Sp.step rfl rfl rfl rfl ?_
                      refine Sp.step rfl rfl rfl rfl ?_
                      refine Sp.step rfl rfl rfl (mst1 rfl rfl e390) ?_
                      refine Sp.step rfl rfl rfl rfl ?_
                      refine Sp.step rfl rfl rfl rfl ?_
                      refine Sp.step rfl rfl rfl rfl ?_
                      refine Sp.step rfl rfl rfl rfl ?_
                      exact Sp.jmp (l0 := [some (.ref 60), some (.int x), some (.int 1), some (.int (x205.2.1 + 1)), none, none]) ⟨rfl, rfl, rfl, rfl, trivial⟩ (fun _ _ h => h)
                  · refine Sp.step rfl rfl rfl rfl ?_
                    refine Sp.step rfl rfl rfl rfl ?_
                    refine Sp.step rfl rfl rfl rfl ?_
                    exact Sp.jmp (l0 := [some (.ref 60), some (.int x), some (.int x205.1), some (.int (x205.2.1 + 1)), none, none]) ⟨rfl, rfl, rfl, rfl, trivial⟩ (fun _ _ h => h)
              · refine Sp.step rfl rfl rfl rfl ?_
                refine Sp.step rfl rfl rfl (mg_F (f := 19) rfl rfl rfl rfl) ?_
                refine Sp.step rfl rfl rfl rfl ?_
                refine Sp.step rfl rfl rfl rfl ?_
                refine Sp.piece (pe := 121) (mf := (fun (x395 : Int32) => [some (.ref 60), some (.int x), some (.int x205.1), some (.int x205.2.1), some (.int (x205.2.2.1 71 ((60 * x) + x205.2.1).toNatClampNeg)), some (.int (x205.2.2.1 72 ((60 * x) + x205.2.1).toNatClampNeg))])) (sf := (fun (x395 : Int32) => [.int x395, .ref 78])) (hf := (fun (x395 : Int32) => hS X x205.2.2)) ?_ (fun x395 => ?_)
                · refine Sp.if2 rfl rfl rfl rfl (fun e394 => ?_) (fun e394 => ?_)
                  · refine Sp.step rfl rfl rfl rfl ?_
                    exact Sp.jmp (l0 := [some (.ref 60), some (.int x), some (.int x205.1), some (.int x205.2.1), some (.int (x205.2.2.1 71 ((60 * x) + x205.2.1).toNatClampNeg)), some (.int (x205.2.2.1 72 ((60 * x) + x205.2.1).toNatClampNeg))]) ⟨rfl, rfl, rfl, rfl, rfl, rfl, trivial⟩ (fun _ _ h => h)
                  · refine Sp.step rfl rfl rfl rfl ?_
                    refine Sp.step rfl rfl rfl rfl ?_
                    exact Sp.jmp (l0 := [some (.ref 60), some (.int x), some (.int x205.1), some (.int x205.2.1), some (.int (x205.2.2.1 71 ((60 * x) + x205.2.1).toNatClampNeg)), some (.int (x205.2.2.1 72 ((60 * x) + x205.2.1).toNatClampNeg))]) ⟨rfl, rfl, rfl, rfl, rfl, rfl, trivial⟩ (fun _ _ h => h)
                · refine Sp.guard (fun e396 => ?_)
                  refine Sp.step rfl rfl rfl (mld rfl rfl (by decide) e396) ?_
                  refine Sp.if1 rfl rfl rfl rfl (fun e397 => ?_) (fun e397 => ?_)
                  · refine Sp.step rfl rfl rfl rfl ?_
                    refine Sp.step rfl rfl rfl rfl ?_
                    refine Sp.if2 rfl rfl rfl rfl (fun e398 => ?_) (fun e398 => ?_)
                    · refine Sp.step rfl rfl rfl rfl ?_
                      refine Sp.step rfl rfl rfl rfl ?_
                      exact Sp.jmp (l0 := [some (.ref 60), some (.int x), some (.int x205.1), some (.int (x205.2.1 + 1)), none, none]) ⟨rfl, rfl, rfl, rfl, trivial⟩ (fun _ _ h => h)
                    · refine Sp.step rfl rfl rfl rfl ?_
                      refine Sp.step rfl rfl rfl rfl ?_
                      refine Sp.callS rfl rfl rfl (mrecv (by decide) (by decide +kernel)) s_M_isClass ⟨rfl, rfl⟩ ?_
                      refine Sp.bool (fun e399 => ?_) (fun e399 => ?_)
                      · refine Sp.step rfl rfl rfl rfl ?_
                        refine Sp.step rfl rfl rfl rfl ?_
                        refine Sp.step rfl rfl rfl (mg_F (f := 17) rfl rfl rfl rfl) ?_
                        refine Sp.step rfl rfl rfl rfl ?_
                        refine Sp.guard (fun e401 => ?_)
                        refine Sp.step rfl rfl rfl (mld rfl rfl (by decide) e401) ?_
                        refine Sp.if1 rfl rfl rfl rfl (fun e402 => ?_) (fun e402 => ?_)
                        · refine Sp.step rfl rfl rfl rfl ?_
                          refine Sp.step rfl rfl rfl rfl ?_
                          exact Sp.jmp (l0 := [some (.ref 60), some (.int x), some (.int x205.1), some (.int (x205.2.1 + 1)), none, none]) ⟨rfl, rfl, rfl, rfl, trivial⟩ (fun _ _ h => h)
                        · refine Sp.step rfl rfl rfl rfl ?_
                          refine Sp.step rfl rfl rfl (mg_F (f := 17) rfl rfl rfl rfl) ?_
                          refine Sp.step rfl rfl rfl rfl ?_
                          refine Sp.step rfl rfl rfl rfl ?_
                          refine Sp.step rfl rfl rfl (mst1 rfl rfl e401) ?_
                          refine Sp.step rfl rfl rfl rfl ?_
                          refine Sp.step rfl rfl rfl rfl ?_
                          refine Sp.step rfl rfl rfl rfl ?_
                          refine Sp.step rfl rfl rfl rfl ?_
                          exact Sp.jmp (l0 := [some (.ref 60), some (.int x), some (.int 1), some (.int (x205.2.1 + 1)), none, none]) ⟨rfl, rfl, rfl, rfl, trivial⟩ (fun _ _ h => h)
                      · refine Sp.step rfl rfl rfl rfl ?_
                        refine Sp.step rfl rfl rfl rfl ?_
                        refine Sp.step rfl rfl rfl rfl ?_
                        exact Sp.jmp (l0 := [some (.ref 60), some (.int x), some (.int x205.1), some (.int (x205.2.1 + 1)), none, none]) ⟨rfl, rfl, rfl, rfl, trivial⟩ (fun _ _ h => h)
                  · refine Sp.step rfl rfl rfl rfl ?_
                    refine Sp.step rfl rfl rfl (mg_F (f := 19) rfl rfl rfl rfl) ?_
                    refine Sp.step rfl rfl rfl rfl ?_
                    refine Sp.step rfl rfl rfl rfl ?_
                    refine Sp.if2 rfl rfl rfl rfl (fun e405 => ?_) (fun e405 => ?_)
                    · refine Sp.step rfl rfl rfl rfl ?_
                      refine Sp.step rfl rfl rfl rfl ?_
                      refine Sp.guard (fun e406 => ?_)
                      refine Sp.step rfl rfl rfl (mst1 rfl rfl e406) ?_
                      refine Sp.step rfl rfl rfl rfl ?_
                      refine Sp.step rfl rfl rfl rfl ?_
                      refine Sp.step rfl rfl rfl rfl ?_
                      refine Sp.step rfl rfl rfl rfl ?_
                      refine Sp.step rfl rfl rfl rfl ?_
                      exact Sp.jmp (l0 := [some (.ref 60), some (.int x), some (.int 1), some (.int (x205.2.1 + 1)), none, none]) ⟨rfl, rfl, rfl, rfl, trivial⟩ (fun _ _ h => h)
                    · refine Sp.step rfl rfl rfl rfl ?_
                      refine Sp.step rfl rfl rfl rfl ?_
                      refine Sp.step rfl rfl rfl rfl ?_
                      refine Sp.step rfl rfl rfl (mst1 rfl rfl (by decide)) ?_
                      refine Sp.step rfl rfl rfl rfl ?_
                      refine Sp.step rfl rfl rfl rfl ?_
                      refine Sp.step rfl rfl rfl rfl ?_
                      refine Sp.step rfl rfl rfl rfl ?_
                      refine Sp.step rfl rfl rfl rfl ?_
                      exact Sp.jmp (l0 := [some (.ref 60), some (.int x), some (.int 1), some (.int (x205.2.1 + 1)), none, none]) ⟨rfl, rfl, rfl, rfl, trivial⟩ (fun _ _ h => h)
  · refine Sp.step rfl rfl rfl rfl ?_
    refine Sp.ite (fun e410 => ?_) (fun _ => Sp.guard (fun e410 => ?_))
    · exact Sp.iret rfl rfl rfl (by rw [e410]; rfl) (fun _ _ h => by rw [e410]; exact h)
    · exact Sp.iret rfl rfl rfl (by rw [e410]; rfl) (fun _ _ h => by rw [e410]; exact h)
