/-! methods as functions, by program -/
theorem mjSw_dflt {x : Int32} {d : Nat} : ∀ (sw : List (Int × Nat)), (∀ q ∈ sw, x = Int32.ofInt q.1 → q.2 = d) → mjSw x d sw = d
  | [], _ => rfl
  | k :: r, h => by
    unfold mjSw
    by_cases e : x = Int32.ofInt k.1
    · rw [if_pos e]; exact h k List.mem_cons_self e
    · rw [if_neg e]; exact mjSw_dflt r (fun q hq => h q (List.mem_cons_of_mem _ hq))
theorem Sp.prune {ρ : Type} {o : MjO} {y pc : Nat} {l : MjL} {st : List Value} {h : MjH} {e : Option ρ} {K : SpK ρ} {c : Prop} [Decidable c] (k : Sp o y pc l st h (if c then e else e) K) : Sp o y pc l st h e K := by
  rw [ite_self] at k; exact k
theorem Sp.pruneV {ρ : Type} {o : MjO} {y pc : Nat} {l : MjL} {st : List Value} {h : MjH} {a : ρ} {K : SpK ρ} {c : Prop} [Decidable c] (k : Sp o y pc l st h (some (if c then a else a)) K) : Sp o y pc l st h (some a) K := by
  rw [ite_self] at k; exact k
theorem Sp.id {ρ : Type} {o : MjO} {y pc : Nat} {l : MjL} {st : List Value} {h : MjH} {e : Option ρ} {K : SpK ρ} (k : Sp o y pc l st h e K) : Sp o y pc l st h e K := k
theorem sw_of {v k : Int32} {d t : Nat} {s : List (Int × Nat)} (e : v = k) (h : mjSw k d s = t) : mjSw v d s = t := by
  rw [e]; exact h
def f_Source_isKind (x : Int32) (X : XS) : Bool := (if x < 0 then false else (if X.1 1 1 ≤ x then false else (if 10 ≤ x then false else true)))
set_option maxRecDepth 100000 in
set_option maxHeartbeats 4000000 in
theorem s_Source_isKind {L : Nat} {xs : Nat → Int32} {X : XS} {M : MS} {x : Int32} : Sp (mjOO L xs) 261 0 [some (.ref 1), some (.int x)] [] (hS X M) (some (f_Source_isKind x X)) (KB (hS X M)) := by
  unfold f_Source_isKind
  refine Sp.step rfl rfl rfl rfl ?_
  refine Sp.if1V rfl rfl rfl rfl (fun e1 => ?_) (fun e1 => ?_)
  · refine Sp.step rfl rfl rfl rfl ?_
    exact Sp.iret rfl rfl rfl rfl (fun _ _ h => h)
  · refine Sp.step rfl rfl rfl rfl ?_
    refine Sp.step rfl rfl rfl rfl ?_
    refine Sp.step rfl rfl rfl (xg_I (c := 8) (f := 1) rfl rfl rfl rfl) ?_
    refine Sp.if2V rfl rfl rfl rfl (fun e2 => ?_) (fun e2 => ?_)
    · refine Sp.step rfl rfl rfl rfl ?_
      exact Sp.iret rfl rfl rfl rfl (fun _ _ h => h)
    · refine Sp.step rfl rfl rfl rfl ?_
      refine Sp.step rfl rfl rfl rfl ?_
      refine Sp.if2V rfl rfl rfl rfl (fun e3 => ?_) (fun e3 => ?_)
      · refine Sp.step rfl rfl rfl rfl ?_
        exact Sp.iret rfl rfl rfl rfl (fun _ _ h => h)
      · refine Sp.step rfl rfl rfl rfl ?_
        refine Sp.step rfl rfl rfl rfl ?_
        exact Sp.iret rfl rfl rfl rfl (fun _ _ h => h)
theorem isKind_ix {x : Int32} {X : XS} (h : f_Source_isKind x X = true) : ixo x 10 := by
  unfold f_Source_isKind at h
  by_cases c0 : x < 0
  · rw [if_pos c0] at h; cases h
  · rw [if_neg c0] at h
    by_cases c1 : X.1 1 1 ≤ x
    · rw [if_pos c1] at h; cases h
    · rw [if_neg c1] at h
      by_cases c2 : 10 ≤ x
      · rw [if_pos c2] at h; cases h
      · exact ix_ok (N := 10) (n := 10) rfl (Int32.not_lt.mp c0) (Int32.not_le.mp c2)
def f_Source_allInts (x : Int32) (X : XS) : Int32 := (if f_Source_isKind x X = true then X.1 6 x.toNatClampNeg else 0)
set_option maxRecDepth 100000 in
set_option maxHeartbeats 4000000 in
theorem s_Source_allInts {L : Nat} {xs : Nat → Int32} {X : XS} {M : MS} {x : Int32} : Sp (mjOO L xs) 267 0 [some (.ref 1), some (.int x)] [] (hS X M) (some (f_Source_allInts x X)) (KQ (hS X M)) := by
  unfold f_Source_allInts
  refine Sp.step rfl rfl rfl rfl ?_
  refine Sp.step rfl rfl rfl rfl ?_
  refine Sp.callS rfl rfl rfl (xrecv (c := 8) (by decide) rfl (by decide +kernel)) s_Source_isKind ⟨rfl, rfl⟩ ?_
  refine Sp.boolV (fun e1 => ?_) (fun e1 => ?_)
  · refine Sp.id (pc := 5) (l := [some (.ref 1), some (.int x)]) (st := [.int 1]) (h := hS X M) ?_
    refine Sp.step rfl rfl rfl rfl ?_
    refine Sp.step rfl rfl rfl rfl ?_
    refine Sp.step rfl rfl rfl (xg_F (c := 8) (f := 6) rfl rfl rfl rfl rfl) ?_
    refine Sp.step rfl rfl rfl rfl ?_
    refine Sp.step rfl rfl rfl (xld rfl (by decide) (isKind_ix e1)) ?_
    refine Sp.step rfl rfl rfl rfl ?_
    exact Sp.iret rfl rfl rfl rfl (fun _ _ h => h)
  · refine Sp.id (pc := 5) (l := [some (.ref 1), some (.int x)]) (st := [.int 0]) (h := hS X M) ?_
    refine Sp.step rfl rfl rfl rfl ?_
    refine Sp.step rfl rfl rfl rfl ?_
    exact Sp.iret rfl rfl rfl rfl (fun _ _ h => h)
def f_Source_allRefs (x : Int32) (X : XS) : Int32 := (if f_Source_isKind x X = true then X.1 7 x.toNatClampNeg else 0)
set_option maxRecDepth 100000 in
set_option maxHeartbeats 4000000 in
theorem s_Source_allRefs {L : Nat} {xs : Nat → Int32} {X : XS} {M : MS} {x : Int32} : Sp (mjOO L xs) 268 0 [some (.ref 1), some (.int x)] [] (hS X M) (some (f_Source_allRefs x X)) (KQ (hS X M)) := by
  unfold f_Source_allRefs
  refine Sp.step rfl rfl rfl rfl ?_
  refine Sp.step rfl rfl rfl rfl ?_
  refine Sp.callS rfl rfl rfl (xrecv (c := 8) (by decide) rfl (by decide +kernel)) s_Source_isKind ⟨rfl, rfl⟩ ?_
  refine Sp.boolV (fun e1 => ?_) (fun e1 => ?_)
  · refine Sp.id (pc := 5) (l := [some (.ref 1), some (.int x)]) (st := [.int 1]) (h := hS X M) ?_
    refine Sp.step rfl rfl rfl rfl ?_
    refine Sp.step rfl rfl rfl rfl ?_
    refine Sp.step rfl rfl rfl (xg_F (c := 8) (f := 7) rfl rfl rfl rfl rfl) ?_
    refine Sp.step rfl rfl rfl rfl ?_
    refine Sp.step rfl rfl rfl (xld rfl (by decide) (isKind_ix e1)) ?_
    refine Sp.step rfl rfl rfl rfl ?_
    exact Sp.iret rfl rfl rfl rfl (fun _ _ h => h)
  · refine Sp.id (pc := 5) (l := [some (.ref 1), some (.int x)]) (st := [.int 0]) (h := hS X M) ?_
    refine Sp.step rfl rfl rfl rfl ?_
    refine Sp.step rfl rfl rfl rfl ?_
    exact Sp.iret rfl rfl rfl rfl (fun _ _ h => h)
def f_Source_addKind (x : Int32) (y : Int32) (z : Int32) (X : XS) : Option (Int32 × XS) := (if x = (-1) then (if 0 ≤ y ∧ y ≤ 6 then (if 0 ≤ z ∧ z ≤ 6 then (if X.1 1 1 < 10 then (if ixo (X.1 1 1) 10 then (lt (xw X 3 (X.1 1 1).toNatClampNeg x) fun X9 => (if ixo (X9.1 1 1) 10 then (lt (xw X9 4 (X9.1 1 1).toNatClampNeg y) fun X11 => (if ixo (X11.1 1 1) 10 then (lt (xw X11 5 (X11.1 1 1).toNatClampNeg z) fun X13 => (if ixo (X13.1 1 1) 10 then (lt (xw X13 6 (X13.1 1 1).toNatClampNeg (y + (f_Source_allInts x X13))) fun X15 => (if ixo (X15.1 1 1) 10 then (lt (xw X15 7 (X15.1 1 1).toNatClampNeg (z + (f_Source_allRefs x X15))) fun X17 => (lt (xw X17 1 1 ((X17.1 1 1) + 1)) fun X18 => some (X17.1 1 1, X18))) else none)) else none)) else none)) else none)) else none) else some ((-1), X)) else some ((-1), X)) else some ((-1), X)) else (if f_Source_isKind x X = true then (if 0 ≤ y ∧ y ≤ 6 then (if 0 ≤ z ∧ z ≤ 6 then (if X.1 1 1 < 10 then (if ixo (X.1 1 1) 10 then (lt (xw X 3 (X.1 1 1).toNatClampNeg x) fun X32 => (if ixo (X32.1 1 1) 10 then (lt (xw X32 4 (X32.1 1 1).toNatClampNeg y) fun X34 => (if ixo (X34.1 1 1) 10 then (lt (xw X34 5 (X34.1 1 1).toNatClampNeg z) fun X36 => (if ixo (X36.1 1 1) 10 then (lt (xw X36 6 (X36.1 1 1).toNatClampNeg (y + (f_Source_allInts x X36))) fun X38 => (if ixo (X38.1 1 1) 10 then (lt (xw X38 7 (X38.1 1 1).toNatClampNeg (z + (f_Source_allRefs x X38))) fun X40 => (lt (xw X40 1 1 ((X40.1 1 1) + 1)) fun X41 => some (X40.1 1 1, X41))) else none)) else none)) else none)) else none)) else none) else some ((-1), X)) else some ((-1), X)) else some ((-1), X)) else some ((-1), X)))
set_option maxRecDepth 100000 in
set_option maxHeartbeats 4000000 in
theorem s_Source_addKind {L : Nat} {xs : Nat → Int32} {X : XS} {M : MS} {x : Int32} {y : Int32} {z : Int32} : Sp (mjOO L xs) 265 0 [some (.ref 1), some (.int x), some (.int y), some (.int z), none] [] (hS X M) (f_Source_addKind x y z X) (KEX M) := by
  unfold f_Source_addKind
  refine Sp.step rfl rfl rfl rfl ?_
  refine Sp.step rfl rfl rfl rfl ?_
  refine Sp.if2 rfl rfl rfl rfl (fun e1 => ?_) (fun e1 => ?_)
  · refine Sp.step rfl rfl rfl rfl ?_
    refine Sp.step rfl rfl rfl rfl ?_
    refine Sp.step rfl rfl rfl rfl ?_
    refine Sp.callP rfl rfl rfl rfl s_within (fun e2 => ?_) (fun e2 => ?_)
    · refine Sp.id (pc := 20) (l := [some (.ref 1), some (.int x), some (.int y), some (.int z), none]) (st := [.int 1]) (h := hS X M) ?_
      refine Sp.step rfl rfl rfl rfl ?_
      refine Sp.step rfl rfl rfl rfl ?_
      refine Sp.step rfl rfl rfl rfl ?_
      refine Sp.step rfl rfl rfl rfl ?_
      refine Sp.callP rfl rfl rfl rfl s_within (fun e4 => ?_) (fun e4 => ?_)
      · refine Sp.id (pc := 30) (l := [some (.ref 1), some (.int x), some (.int y), some (.int z), none]) (st := [.int 1]) (h := hS X M) ?_
        refine Sp.step rfl rfl rfl rfl ?_
        refine Sp.step rfl rfl rfl rfl ?_
        refine Sp.step rfl rfl rfl rfl ?_
        refine Sp.step rfl rfl rfl rfl ?_
        refine Sp.step rfl rfl rfl rfl ?_
        refine Sp.step rfl rfl rfl rfl ?_
        refine Sp.step rfl rfl rfl rfl ?_
        refine Sp.step rfl rfl rfl (xg_I (c := 8) (f := 1) rfl rfl rfl rfl) ?_
        refine Sp.step rfl rfl rfl rfl ?_
        refine Sp.if2 rfl rfl rfl rfl (fun e7 => ?_) (fun e7 => ?_)
        · refine Sp.step rfl rfl rfl rfl ?_
          refine Sp.step rfl rfl rfl (xg_F (c := 8) (f := 3) rfl rfl rfl rfl rfl) ?_
          refine Sp.step rfl rfl rfl rfl ?_
          refine Sp.step rfl rfl rfl (xg_I (c := 8) (f := 1) rfl rfl rfl rfl) ?_
          refine Sp.step rfl rfl rfl rfl ?_
          refine Sp.guard (fun e8 => ?_)
          refine Sp.step rfl rfl rfl (xst rfl (by decide) e8) ?_
          refine Sp.step rfl rfl rfl rfl ?_
          refine Sp.step rfl rfl rfl (xg_F (c := 8) (f := 4) rfl rfl rfl rfl rfl) ?_
          refine Sp.step rfl rfl rfl rfl ?_
          refine Sp.step rfl rfl rfl (xg_I (c := 8) (f := 1) rfl rfl rfl rfl) ?_
          refine Sp.step rfl rfl rfl rfl ?_
          refine Sp.guard (fun e10 => ?_)
          refine Sp.step rfl rfl rfl (xst rfl (by decide) e10) ?_
          refine Sp.step rfl rfl rfl rfl ?_
          refine Sp.step rfl rfl rfl (xg_F (c := 8) (f := 5) rfl rfl rfl rfl rfl) ?_
          refine Sp.step rfl rfl rfl rfl ?_
          refine Sp.step rfl rfl rfl (xg_I (c := 8) (f := 1) rfl rfl rfl rfl) ?_
          refine Sp.step rfl rfl rfl rfl ?_
          refine Sp.guard (fun e12 => ?_)
          refine Sp.step rfl rfl rfl (xst rfl (by decide) e12) ?_
          refine Sp.step rfl rfl rfl rfl ?_
          refine Sp.step rfl rfl rfl (xg_F (c := 8) (f := 6) rfl rfl rfl rfl rfl) ?_
          refine Sp.step rfl rfl rfl rfl ?_
          refine Sp.step rfl rfl rfl (xg_I (c := 8) (f := 1) rfl rfl rfl rfl) ?_
          refine Sp.step rfl rfl rfl rfl ?_
          refine Sp.step rfl rfl rfl rfl ?_
          refine Sp.step rfl rfl rfl rfl ?_
          refine Sp.callS rfl rfl rfl (xrecv (c := 8) (by decide) rfl (by decide +kernel)) s_Source_allInts ⟨rfl, rfl⟩ ?_
          refine Sp.id (pc := 100) (l := [some (.ref 1), some (.int x), some (.int y), some (.int z), some (.int 1)]) (st := [.int (f_Source_allInts x (xw (xw (xw X 3 (X.1 1 1).toNatClampNeg x) 4 ((xw X 3 (X.1 1 1).toNatClampNeg x).1 1 1).toNatClampNeg y) 5 ((xw (xw X 3 (X.1 1 1).toNatClampNeg x) 4 ((xw X 3 (X.1 1 1).toNatClampNeg x).1 1 1).toNatClampNeg y).1 1 1).toNatClampNeg z)), .int y, .int ((xw (xw (xw X 3 (X.1 1 1).toNatClampNeg x) 4 ((xw X 3 (X.1 1 1).toNatClampNeg x).1 1 1).toNatClampNeg y) 5 ((xw (xw X 3 (X.1 1 1).toNatClampNeg x) 4 ((xw X 3 (X.1 1 1).toNatClampNeg x).1 1 1).toNatClampNeg y).1 1 1).toNatClampNeg z).1 1 1), .ref 6]) (h := hS (xw (xw (xw X 3 (X.1 1 1).toNatClampNeg x) 4 ((xw X 3 (X.1 1 1).toNatClampNeg x).1 1 1).toNatClampNeg y) 5 ((xw (xw X 3 (X.1 1 1).toNatClampNeg x) 4 ((xw X 3 (X.1 1 1).toNatClampNeg x).1 1 1).toNatClampNeg y).1 1 1).toNatClampNeg z) M) ?_
          refine Sp.step rfl rfl rfl rfl ?_
          refine Sp.guard (fun e14 => ?_)
          refine Sp.step rfl rfl rfl (xst rfl (by decide) e14) ?_
          refine Sp.step rfl rfl rfl rfl ?_
          refine Sp.step rfl rfl rfl (xg_F (c := 8) (f := 7) rfl rfl rfl rfl rfl) ?_
          refine Sp.step rfl rfl rfl rfl ?_
          refine Sp.step rfl rfl rfl (xg_I (c := 8) (f := 1) rfl rfl rfl rfl) ?_
          refine Sp.step rfl rfl rfl rfl ?_
          refine Sp.step rfl rfl rfl rfl ?_
          refine Sp.step rfl rfl rfl rfl ?_
          refine Sp.callS rfl rfl rfl (xrecv (c := 8) (by decide) rfl (by decide +kernel)) s_Source_allRefs ⟨rfl, rfl⟩ ?_
          refine Sp.id (pc := 116) (l := [some (.ref 1), some (.int x), some (.int y), some (.int z), some (.int 1)]) (st := [.int (f_Source_allRefs x (xw (xw (xw (xw X 3 (X.1 1 1).toNatClampNeg x) 4 ((xw X 3 (X.1 1 1).toNatClampNeg x).1 1 1).toNatClampNeg y) 5 ((xw (xw X 3 (X.1 1 1).toNatClampNeg x) 4 ((xw X 3 (X.1 1 1).toNatClampNeg x).1 1 1).toNatClampNeg y).1 1 1).toNatClampNeg z) 6 ((xw (xw (xw X 3 (X.1 1 1).toNatClampNeg x) 4 ((xw X 3 (X.1 1 1).toNatClampNeg x).1 1 1).toNatClampNeg y) 5 ((xw (xw X 3 (X.1 1 1).toNatClampNeg x) 4 ((xw X 3 (X.1 1 1).toNatClampNeg x).1 1 1).toNatClampNeg y).1 1 1).toNatClampNeg z).1 1 1).toNatClampNeg (y + (f_Source_allInts x (xw (xw (xw X 3 (X.1 1 1).toNatClampNeg x) 4 ((xw X 3 (X.1 1 1).toNatClampNeg x).1 1 1).toNatClampNeg y) 5 ((xw (xw X 3 (X.1 1 1).toNatClampNeg x) 4 ((xw X 3 (X.1 1 1).toNatClampNeg x).1 1 1).toNatClampNeg y).1 1 1).toNatClampNeg z))))), .int z, .int ((xw (xw (xw (xw X 3 (X.1 1 1).toNatClampNeg x) 4 ((xw X 3 (X.1 1 1).toNatClampNeg x).1 1 1).toNatClampNeg y) 5 ((xw (xw X 3 (X.1 1 1).toNatClampNeg x) 4 ((xw X 3 (X.1 1 1).toNatClampNeg x).1 1 1).toNatClampNeg y).1 1 1).toNatClampNeg z) 6 ((xw (xw (xw X 3 (X.1 1 1).toNatClampNeg x) 4 ((xw X 3 (X.1 1 1).toNatClampNeg x).1 1 1).toNatClampNeg y) 5 ((xw (xw X 3 (X.1 1 1).toNatClampNeg x) 4 ((xw X 3 (X.1 1 1).toNatClampNeg x).1 1 1).toNatClampNeg y).1 1 1).toNatClampNeg z).1 1 1).toNatClampNeg (y + (f_Source_allInts x (xw (xw (xw X 3 (X.1 1 1).toNatClampNeg x) 4 ((xw X 3 (X.1 1 1).toNatClampNeg x).1 1 1).toNatClampNeg y) 5 ((xw (xw X 3 (X.1 1 1).toNatClampNeg x) 4 ((xw X 3 (X.1 1 1).toNatClampNeg x).1 1 1).toNatClampNeg y).1 1 1).toNatClampNeg z)))).1 1 1), .ref 7]) (h := hS (xw (xw (xw (xw X 3 (X.1 1 1).toNatClampNeg x) 4 ((xw X 3 (X.1 1 1).toNatClampNeg x).1 1 1).toNatClampNeg y) 5 ((xw (xw X 3 (X.1 1 1).toNatClampNeg x) 4 ((xw X 3 (X.1 1 1).toNatClampNeg x).1 1 1).toNatClampNeg y).1 1 1).toNatClampNeg z) 6 ((xw (xw (xw X 3 (X.1 1 1).toNatClampNeg x) 4 ((xw X 3 (X.1 1 1).toNatClampNeg x).1 1 1).toNatClampNeg y) 5 ((xw (xw X 3 (X.1 1 1).toNatClampNeg x) 4 ((xw X 3 (X.1 1 1).toNatClampNeg x).1 1 1).toNatClampNeg y).1 1 1).toNatClampNeg z).1 1 1).toNatClampNeg (y + (f_Source_allInts x (xw (xw (xw X 3 (X.1 1 1).toNatClampNeg x) 4 ((xw X 3 (X.1 1 1).toNatClampNeg x).1 1 1).toNatClampNeg y) 5 ((xw (xw X 3 (X.1 1 1).toNatClampNeg x) 4 ((xw X 3 (X.1 1 1).toNatClampNeg x).1 1 1).toNatClampNeg y).1 1 1).toNatClampNeg z)))) M) ?_
          refine Sp.step rfl rfl rfl rfl ?_
          refine Sp.guard (fun e16 => ?_)
          refine Sp.step rfl rfl rfl (xst rfl (by decide) e16) ?_
          refine Sp.step rfl rfl rfl rfl ?_
          refine Sp.step rfl rfl rfl rfl ?_
          refine Sp.step rfl rfl rfl (xg_I (c := 8) (f := 1) rfl rfl rfl rfl) ?_
          refine Sp.step rfl rfl rfl rfl ?_
          refine Sp.step rfl rfl rfl rfl ?_
          refine Sp.step rfl rfl rfl rfl ?_
          refine Sp.step rfl rfl rfl (xp_I (c := 8) (f := 1) rfl rfl rfl rfl rfl) ?_
          exact Sp.iret rfl rfl rfl rfl (fun _ _ h => h)
        · refine Sp.step rfl rfl rfl rfl ?_
          exact Sp.iret rfl rfl rfl rfl (fun _ _ h => h)
      · refine Sp.id (pc := 30) (l := [some (.ref 1), some (.int x), some (.int y), some (.int z), none]) (st := [.int 0]) (h := hS X M) ?_
        refine Sp.step rfl rfl rfl rfl ?_
        refine Sp.step rfl rfl rfl rfl ?_
        refine Sp.step rfl rfl rfl rfl ?_
        refine Sp.step rfl rfl rfl rfl ?_
        refine Sp.step rfl rfl rfl rfl ?_
        refine Sp.step rfl rfl rfl rfl ?_
        exact Sp.iret rfl rfl rfl rfl (fun _ _ h => h)
    · refine Sp.id (pc := 20) (l := [some (.ref 1), some (.int x), some (.int y), some (.int z), none]) (st := [.int 0]) (h := hS X M) ?_
      refine Sp.step rfl rfl rfl rfl ?_
      refine Sp.step rfl rfl rfl rfl ?_
      refine Sp.step rfl rfl rfl rfl ?_
      refine Sp.step rfl rfl rfl rfl ?_
      refine Sp.step rfl rfl rfl rfl ?_
      refine Sp.step rfl rfl rfl rfl ?_
      exact Sp.iret rfl rfl rfl rfl (fun _ _ h => h)
  · refine Sp.step rfl rfl rfl rfl ?_
    refine Sp.step rfl rfl rfl rfl ?_
    refine Sp.callS rfl rfl rfl (xrecv (c := 8) (by decide) rfl (by decide +kernel)) s_Source_isKind ⟨rfl, rfl⟩ ?_
    refine Sp.bool (fun e23 => ?_) (fun e23 => ?_)
    · refine Sp.id (pc := 10) (l := [some (.ref 1), some (.int x), some (.int y), some (.int z), none]) (st := [.int 1]) (h := hS X M) ?_
      refine Sp.step rfl rfl rfl rfl ?_
      refine Sp.step rfl rfl rfl rfl ?_
      refine Sp.step rfl rfl rfl rfl ?_
      refine Sp.step rfl rfl rfl rfl ?_
      refine Sp.callP rfl rfl rfl rfl s_within (fun e25 => ?_) (fun e25 => ?_)
      · refine Sp.id (pc := 20) (l := [some (.ref 1), some (.int x), some (.int y), some (.int z), none]) (st := [.int 1]) (h := hS X M) ?_
        refine Sp.step rfl rfl rfl rfl ?_
        refine Sp.step rfl rfl rfl rfl ?_
        refine Sp.step rfl rfl rfl rfl ?_
        refine Sp.step rfl rfl rfl rfl ?_
        refine Sp.callP rfl rfl rfl rfl s_within (fun e27 => ?_) (fun e27 => ?_)
        · refine Sp.id (pc := 30) (l := [some (.ref 1), some (.int x), some (.int y), some (.int z), none]) (st := [.int 1]) (h := hS X M) ?_
          refine Sp.step rfl rfl rfl rfl ?_
          refine Sp.step rfl rfl rfl rfl ?_
          refine Sp.step rfl rfl rfl rfl ?_
          refine Sp.step rfl rfl rfl rfl ?_
          refine Sp.step rfl rfl rfl rfl ?_
          refine Sp.step rfl rfl rfl rfl ?_
          refine Sp.step rfl rfl rfl rfl ?_
          refine Sp.step rfl rfl rfl (xg_I (c := 8) (f := 1) rfl rfl rfl rfl) ?_
          refine Sp.step rfl rfl rfl rfl ?_
          refine Sp.if2 rfl rfl rfl rfl (fun e30 => ?_) (fun e30 => ?_)
          · refine Sp.step rfl rfl rfl rfl ?_
            refine Sp.step rfl rfl rfl (xg_F (c := 8) (f := 3) rfl rfl rfl rfl rfl) ?_
            refine Sp.step rfl rfl rfl rfl ?_
            refine Sp.step rfl rfl rfl (xg_I (c := 8) (f := 1) rfl rfl rfl rfl) ?_
            refine Sp.step rfl rfl rfl rfl ?_
            refine Sp.guard (fun e31 => ?_)
            refine Sp.step rfl rfl rfl (xst rfl (by decide) e31) ?_
            refine Sp.step rfl rfl rfl rfl ?_
            refine Sp.step rfl rfl rfl (xg_F (c := 8) (f := 4) rfl rfl rfl rfl rfl) ?_
            refine Sp.step rfl rfl rfl rfl ?_
            refine Sp.step rfl rfl rfl (xg_I (c := 8) (f := 1) rfl rfl rfl rfl) ?_
            refine Sp.step rfl rfl rfl rfl ?_
            refine Sp.guard (fun e33 => ?_)
            refine Sp.step rfl rfl rfl (xst rfl (by decide) e33) ?_
            refine Sp.step rfl rfl rfl rfl ?_
            refine Sp.step rfl rfl rfl (xg_F (c := 8) (f := 5) rfl rfl rfl rfl rfl) ?_
            refine Sp.step rfl rfl rfl rfl ?_
            refine Sp.step rfl rfl rfl (xg_I (c := 8) (f := 1) rfl rfl rfl rfl) ?_
            refine Sp.step rfl rfl rfl rfl ?_
            refine Sp.guard (fun e35 => ?_)
            refine Sp.step rfl rfl rfl (xst rfl (by decide) e35) ?_
            refine Sp.step rfl rfl rfl rfl ?_
            refine Sp.step rfl rfl rfl (xg_F (c := 8) (f := 6) rfl rfl rfl rfl rfl) ?_
            refine Sp.step rfl rfl rfl rfl ?_
            refine Sp.step rfl rfl rfl (xg_I (c := 8) (f := 1) rfl rfl rfl rfl) ?_
            refine Sp.step rfl rfl rfl rfl ?_
            refine Sp.step rfl rfl rfl rfl ?_
            refine Sp.step rfl rfl rfl rfl ?_
            refine Sp.callS rfl rfl rfl (xrecv (c := 8) (by decide) rfl (by decide +kernel)) s_Source_allInts ⟨rfl, rfl⟩ ?_
            refine Sp.id (pc := 100) (l := [some (.ref 1), some (.int x), some (.int y), some (.int z), some (.int 1)]) (st := [.int (f_Source_allInts x (xw (xw (xw X 3 (X.1 1 1).toNatClampNeg x) 4 ((xw X 3 (X.1 1 1).toNatClampNeg x).1 1 1).toNatClampNeg y) 5 ((xw (xw X 3 (X.1 1 1).toNatClampNeg x) 4 ((xw X 3 (X.1 1 1).toNatClampNeg x).1 1 1).toNatClampNeg y).1 1 1).toNatClampNeg z)), .int y, .int ((xw (xw (xw X 3 (X.1 1 1).toNatClampNeg x) 4 ((xw X 3 (X.1 1 1).toNatClampNeg x).1 1 1).toNatClampNeg y) 5 ((xw (xw X 3 (X.1 1 1).toNatClampNeg x) 4 ((xw X 3 (X.1 1 1).toNatClampNeg x).1 1 1).toNatClampNeg y).1 1 1).toNatClampNeg z).1 1 1), .ref 6]) (h := hS (xw (xw (xw X 3 (X.1 1 1).toNatClampNeg x) 4 ((xw X 3 (X.1 1 1).toNatClampNeg x).1 1 1).toNatClampNeg y) 5 ((xw (xw X 3 (X.1 1 1).toNatClampNeg x) 4 ((xw X 3 (X.1 1 1).toNatClampNeg x).1 1 1).toNatClampNeg y).1 1 1).toNatClampNeg z) M) ?_
            refine Sp.step rfl rfl rfl rfl ?_
            refine Sp.guard (fun e37 => ?_)
            refine Sp.step rfl rfl rfl (xst rfl (by decide) e37) ?_
            refine Sp.step rfl rfl rfl rfl ?_
            refine Sp.step rfl rfl rfl (xg_F (c := 8) (f := 7) rfl rfl rfl rfl rfl) ?_
            refine Sp.step rfl rfl rfl rfl ?_
            refine Sp.step rfl rfl rfl (xg_I (c := 8) (f := 1) rfl rfl rfl rfl) ?_
            refine Sp.step rfl rfl rfl rfl ?_
            refine Sp.step rfl rfl rfl rfl ?_
            refine Sp.step rfl rfl rfl rfl ?_
            refine Sp.callS rfl rfl rfl (xrecv (c := 8) (by decide) rfl (by decide +kernel)) s_Source_allRefs ⟨rfl, rfl⟩ ?_
            refine Sp.id (pc := 116) (l := [some (.ref 1), some (.int x), some (.int y), some (.int z), some (.int 1)]) (st := [.int (f_Source_allRefs x (xw (xw (xw (xw X 3 (X.1 1 1).toNatClampNeg x) 4 ((xw X 3 (X.1 1 1).toNatClampNeg x).1 1 1).toNatClampNeg y) 5 ((xw (xw X 3 (X.1 1 1).toNatClampNeg x) 4 ((xw X 3 (X.1 1 1).toNatClampNeg x).1 1 1).toNatClampNeg y).1 1 1).toNatClampNeg z) 6 ((xw (xw (xw X 3 (X.1 1 1).toNatClampNeg x) 4 ((xw X 3 (X.1 1 1).toNatClampNeg x).1 1 1).toNatClampNeg y) 5 ((xw (xw X 3 (X.1 1 1).toNatClampNeg x) 4 ((xw X 3 (X.1 1 1).toNatClampNeg x).1 1 1).toNatClampNeg y).1 1 1).toNatClampNeg z).1 1 1).toNatClampNeg (y + (f_Source_allInts x (xw (xw (xw X 3 (X.1 1 1).toNatClampNeg x) 4 ((xw X 3 (X.1 1 1).toNatClampNeg x).1 1 1).toNatClampNeg y) 5 ((xw (xw X 3 (X.1 1 1).toNatClampNeg x) 4 ((xw X 3 (X.1 1 1).toNatClampNeg x).1 1 1).toNatClampNeg y).1 1 1).toNatClampNeg z))))), .int z, .int ((xw (xw (xw (xw X 3 (X.1 1 1).toNatClampNeg x) 4 ((xw X 3 (X.1 1 1).toNatClampNeg x).1 1 1).toNatClampNeg y) 5 ((xw (xw X 3 (X.1 1 1).toNatClampNeg x) 4 ((xw X 3 (X.1 1 1).toNatClampNeg x).1 1 1).toNatClampNeg y).1 1 1).toNatClampNeg z) 6 ((xw (xw (xw X 3 (X.1 1 1).toNatClampNeg x) 4 ((xw X 3 (X.1 1 1).toNatClampNeg x).1 1 1).toNatClampNeg y) 5 ((xw (xw X 3 (X.1 1 1).toNatClampNeg x) 4 ((xw X 3 (X.1 1 1).toNatClampNeg x).1 1 1).toNatClampNeg y).1 1 1).toNatClampNeg z).1 1 1).toNatClampNeg (y + (f_Source_allInts x (xw (xw (xw X 3 (X.1 1 1).toNatClampNeg x) 4 ((xw X 3 (X.1 1 1).toNatClampNeg x).1 1 1).toNatClampNeg y) 5 ((xw (xw X 3 (X.1 1 1).toNatClampNeg x) 4 ((xw X 3 (X.1 1 1).toNatClampNeg x).1 1 1).toNatClampNeg y).1 1 1).toNatClampNeg z)))).1 1 1), .ref 7]) (h := hS (xw (xw (xw (xw X 3 (X.1 1 1).toNatClampNeg x) 4 ((xw X 3 (X.1 1 1).toNatClampNeg x).1 1 1).toNatClampNeg y) 5 ((xw (xw X 3 (X.1 1 1).toNatClampNeg x) 4 ((xw X 3 (X.1 1 1).toNatClampNeg x).1 1 1).toNatClampNeg y).1 1 1).toNatClampNeg z) 6 ((xw (xw (xw X 3 (X.1 1 1).toNatClampNeg x) 4 ((xw X 3 (X.1 1 1).toNatClampNeg x).1 1 1).toNatClampNeg y) 5 ((xw (xw X 3 (X.1 1 1).toNatClampNeg x) 4 ((xw X 3 (X.1 1 1).toNatClampNeg x).1 1 1).toNatClampNeg y).1 1 1).toNatClampNeg z).1 1 1).toNatClampNeg (y + (f_Source_allInts x (xw (xw (xw X 3 (X.1 1 1).toNatClampNeg x) 4 ((xw X 3 (X.1 1 1).toNatClampNeg x).1 1 1).toNatClampNeg y) 5 ((xw (xw X 3 (X.1 1 1).toNatClampNeg x) 4 ((xw X 3 (X.1 1 1).toNatClampNeg x).1 1 1).toNatClampNeg y).1 1 1).toNatClampNeg z)))) M) ?_
            refine Sp.step rfl rfl rfl rfl ?_
            refine Sp.guard (fun e39 => ?_)
            refine Sp.step rfl rfl rfl (xst rfl (by decide) e39) ?_
            refine Sp.step rfl rfl rfl rfl ?_
            refine Sp.step rfl rfl rfl rfl ?_
            refine Sp.step rfl rfl rfl (xg_I (c := 8) (f := 1) rfl rfl rfl rfl) ?_
            refine Sp.step rfl rfl rfl rfl ?_
            refine Sp.step rfl rfl rfl rfl ?_
            refine Sp.step rfl rfl rfl rfl ?_
            refine Sp.step rfl rfl rfl (xp_I (c := 8) (f := 1) rfl rfl rfl rfl rfl) ?_
            exact Sp.iret rfl rfl rfl rfl (fun _ _ h => h)
          · refine Sp.step rfl rfl rfl rfl ?_
            exact Sp.iret rfl rfl rfl rfl (fun _ _ h => h)
        · refine Sp.id (pc := 30) (l := [some (.ref 1), some (.int x), some (.int y), some (.int z), none]) (st := [.int 0]) (h := hS X M) ?_
          refine Sp.step rfl rfl rfl rfl ?_
          refine Sp.step rfl rfl rfl rfl ?_
          refine Sp.step rfl rfl rfl rfl ?_
          refine Sp.step rfl rfl rfl rfl ?_
          refine Sp.step rfl rfl rfl rfl ?_
          refine Sp.step rfl rfl rfl rfl ?_
          exact Sp.iret rfl rfl rfl rfl (fun _ _ h => h)
      · refine Sp.id (pc := 20) (l := [some (.ref 1), some (.int x), some (.int y), some (.int z), none]) (st := [.int 0]) (h := hS X M) ?_
        refine Sp.step rfl rfl rfl rfl ?_
        refine Sp.step rfl rfl rfl rfl ?_
        refine Sp.step rfl rfl rfl rfl ?_
        refine Sp.step rfl rfl rfl rfl ?_
        refine Sp.step rfl rfl rfl rfl ?_
        refine Sp.step rfl rfl rfl rfl ?_
        exact Sp.iret rfl rfl rfl rfl (fun _ _ h => h)
    · refine Sp.id (pc := 10) (l := [some (.ref 1), some (.int x), some (.int y), some (.int z), none]) (st := [.int 0]) (h := hS X M) ?_
      refine Sp.step rfl rfl rfl rfl ?_
      refine Sp.step rfl rfl rfl rfl ?_
      refine Sp.step rfl rfl rfl rfl ?_
      refine Sp.step rfl rfl rfl rfl ?_
      refine Sp.step rfl rfl rfl rfl ?_
      refine Sp.step rfl rfl rfl rfl ?_
      exact Sp.iret rfl rfl rfl rfl (fun _ _ h => h)
def f_P_cls (x : Int32) (y : Int32) (z : Int32) (X : XS) : Option (Int32 × XS) := ((f_Source_addKind x y z X).bind fun x1 => some (x1.1, x1.2))
set_option maxRecDepth 100000 in
set_option maxHeartbeats 4000000 in
theorem s_P_cls {L : Nat} {xs : Nat → Int32} {X : XS} {M : MS} {x : Int32} {y : Int32} {z : Int32} : Sp (mjOO L xs) 1 0 [some (.ref 0), some (.int x), some (.int y), some (.int z)] [] (hS X M) (f_P_cls x y z X) (KEX M) := by
  unfold f_P_cls
  refine Sp.step rfl rfl rfl rfl ?_
  refine Sp.step rfl rfl rfl (xg_F (c := 11) (f := 0) rfl rfl rfl rfl rfl) ?_
  refine Sp.step rfl rfl rfl rfl ?_
  refine Sp.step rfl rfl rfl rfl ?_
  refine Sp.step rfl rfl rfl rfl ?_
  refine Sp.call rfl rfl rfl (xrecv (c := 8) (by decide) rfl (by decide +kernel)) s_Source_addKind (fun x1 => ⟨_, _, ⟨rfl, rfl⟩, ?_⟩)
  refine Sp.id (pc := 10) (l := [some (.ref 0), some (.int x), some (.int y), some (.int z)]) (st := [.int x1.1]) (h := hS x1.2 M) ?_
  exact Sp.iret rfl rfl rfl rfl (fun _ _ h => h)
def f_Source_ownRoutine (x : Int32) (y : Int32) (X : XS) : Option Int32 := (if f_Source_isKind x X = true then (if 0 ≤ y ∧ y ≤ 7 then (if ixo ((x * 8) + y) 80 then some (X.1 8 ((x * 8) + y).toNatClampNeg) else none) else some (-1)) else some (-1))
set_option maxRecDepth 100000 in
set_option maxHeartbeats 4000000 in
theorem s_Source_ownRoutine {L : Nat} {xs : Nat → Int32} {X : XS} {M : MS} {x : Int32} {y : Int32} : Sp (mjOO L xs) 275 0 [some (.ref 1), some (.int x), some (.int y)] [] (hS X M) (f_Source_ownRoutine x y X) (KQ (hS X M)) := by
  unfold f_Source_ownRoutine
  refine Sp.step rfl rfl rfl rfl ?_
  refine Sp.step rfl rfl rfl rfl ?_
  refine Sp.callS rfl rfl rfl (xrecv (c := 8) (by decide) rfl (by decide +kernel)) s_Source_isKind ⟨rfl, rfl⟩ ?_
  refine Sp.bool (fun e1 => ?_) (fun e1 => ?_)
  · refine Sp.id (pc := 5) (l := [some (.ref 1), some (.int x), some (.int y)]) (st := [.int 1]) (h := hS X M) ?_
    refine Sp.step rfl rfl rfl rfl ?_
    refine Sp.step rfl rfl rfl rfl ?_
    refine Sp.step rfl rfl rfl rfl ?_
    refine Sp.step rfl rfl rfl rfl ?_
    refine Sp.callP rfl rfl rfl rfl s_within (fun e3 => ?_) (fun e3 => ?_)
    · refine Sp.id (pc := 15) (l := [some (.ref 1), some (.int x), some (.int y)]) (st := [.int 1]) (h := hS X M) ?_
      refine Sp.step rfl rfl rfl rfl ?_
      refine Sp.step rfl rfl rfl rfl ?_
      refine Sp.step rfl rfl rfl (xg_F (c := 8) (f := 8) rfl rfl rfl rfl rfl) ?_
      refine Sp.step rfl rfl rfl rfl ?_
      refine Sp.step rfl rfl rfl rfl ?_
      refine Sp.step rfl rfl rfl rfl ?_
      refine Sp.step rfl rfl rfl rfl ?_
      refine Sp.step rfl rfl rfl rfl ?_
      refine Sp.guard (fun e5 => ?_)
      refine Sp.step rfl rfl rfl (xld rfl (by decide) e5) ?_
      refine Sp.step rfl rfl rfl rfl ?_
      exact Sp.iret rfl rfl rfl rfl (fun _ _ h => h)
    · refine Sp.id (pc := 15) (l := [some (.ref 1), some (.int x), some (.int y)]) (st := [.int 0]) (h := hS X M) ?_
      refine Sp.step rfl rfl rfl rfl ?_
      refine Sp.step rfl rfl rfl rfl ?_
      exact Sp.iret rfl rfl rfl rfl (fun _ _ h => h)
  · refine Sp.id (pc := 5) (l := [some (.ref 1), some (.int x), some (.int y)]) (st := [.int 0]) (h := hS X M) ?_
    refine Sp.step rfl rfl rfl rfl ?_
    refine Sp.step rfl rfl rfl rfl ?_
    exact Sp.iret rfl rfl rfl rfl (fun _ _ h => h)
def f_Source_routineOfName (x : Int32) (X : XS) : Int32 := (if 0 ≤ x ∧ x ≤ 7 then X.1 9 x.toNatClampNeg else (-1))
set_option maxRecDepth 100000 in
set_option maxHeartbeats 4000000 in
theorem s_Source_routineOfName {L : Nat} {xs : Nat → Int32} {X : XS} {M : MS} {x : Int32} : Sp (mjOO L xs) 274 0 [some (.ref 1), some (.int x)] [] (hS X M) (some (f_Source_routineOfName x X)) (KQ (hS X M)) := by
  unfold f_Source_routineOfName
  refine Sp.step rfl rfl rfl rfl ?_
  refine Sp.step rfl rfl rfl rfl ?_
  refine Sp.step rfl rfl rfl rfl ?_
  refine Sp.callPV rfl rfl rfl rfl s_within (fun e1 => ?_) (fun e1 => ?_)
  · refine Sp.id (pc := 7) (l := [some (.ref 1), some (.int x)]) (st := [.int 1]) (h := hS X M) ?_
    refine Sp.step rfl rfl rfl rfl ?_
    refine Sp.step rfl rfl rfl rfl ?_
    refine Sp.step rfl rfl rfl (xg_F (c := 8) (f := 9) rfl rfl rfl rfl rfl) ?_
    refine Sp.step rfl rfl rfl rfl ?_
    refine Sp.step rfl rfl rfl (xld rfl (by decide) (ix_le (N := 7) rfl e1.1 e1.2)) ?_
    refine Sp.step rfl rfl rfl rfl ?_
    exact Sp.iret rfl rfl rfl rfl (fun _ _ h => h)
  · refine Sp.id (pc := 7) (l := [some (.ref 1), some (.int x)]) (st := [.int 0]) (h := hS X M) ?_
    refine Sp.step rfl rfl rfl rfl ?_
    refine Sp.step rfl rfl rfl rfl ?_
    exact Sp.iret rfl rfl rfl rfl (fun _ _ h => h)
def f_Source_isRoutine (x : Int32) (X : XS) : Bool := (if x < 0 then false else (if X.1 1 2 ≤ x then false else (if 24 ≤ x then false else (ocz (X.2.1 2 x.toNatClampNeg) false (fun a4 => true)))))
set_option maxRecDepth 100000 in
set_option maxHeartbeats 4000000 in
theorem s_Source_isRoutine {L : Nat} {xs : Nat → Int32} {X : XS} {M : MS} {x : Int32} : Sp (mjOO L xs) 262 0 [some (.ref 1), some (.int x)] [] (hS X M) (some (f_Source_isRoutine x X)) (KB (hS X M)) := by
  unfold f_Source_isRoutine
  refine Sp.step rfl rfl rfl rfl ?_
  refine Sp.if1V rfl rfl rfl rfl (fun e1 => ?_) (fun e1 => ?_)
  · refine Sp.step rfl rfl rfl rfl ?_
    exact Sp.iret rfl rfl rfl rfl (fun _ _ h => h)
  · refine Sp.step rfl rfl rfl rfl ?_
    refine Sp.step rfl rfl rfl rfl ?_
    refine Sp.step rfl rfl rfl (xg_I (c := 8) (f := 2) rfl rfl rfl rfl) ?_
    refine Sp.if2V rfl rfl rfl rfl (fun e2 => ?_) (fun e2 => ?_)
    · refine Sp.step rfl rfl rfl rfl ?_
      exact Sp.iret rfl rfl rfl rfl (fun _ _ h => h)
    · refine Sp.step rfl rfl rfl rfl ?_
      refine Sp.step rfl rfl rfl rfl ?_
      refine Sp.if2V rfl rfl rfl rfl (fun e3 => ?_) (fun e3 => ?_)
      · refine Sp.step rfl rfl rfl rfl ?_
        exact Sp.iret rfl rfl rfl rfl (fun _ _ h => h)
      · refine Sp.step rfl rfl rfl rfl ?_
        refine Sp.step rfl rfl rfl (xg_F (c := 8) (f := 0) rfl rfl rfl rfl rfl) ?_
        refine Sp.step rfl rfl rfl rfl ?_
        refine Sp.step rfl rfl rfl (xald (t := 3) rfl (by decide) (fun _ => rfl) (ix_ok (N := 24) (n := 24) rfl (Int32.not_lt.mp e1) (Int32.not_le.mp e3))) ?_
        refine Sp.ocrV (fun e5 => ?_) (fun a4 e5 => ?_)
        · refine Sp.step rfl rfl rfl rfl ?_
          refine Sp.step rfl rfl rfl rfl ?_
          exact Sp.iret rfl rfl rfl rfl (fun _ _ h => h)
        · refine Sp.step rfl rfl rfl rfl ?_
          refine Sp.step rfl rfl rfl rfl ?_
          refine Sp.step rfl rfl rfl rfl ?_
          exact Sp.iret rfl rfl rfl rfl (fun _ _ h => h)
theorem isRoutine_ix {x : Int32} {X : XS} (h : f_Source_isRoutine x X = true) : ixo x 24 := by
  unfold f_Source_isRoutine at h
  by_cases c0 : x < 0
  · rw [if_pos c0] at h; cases h
  · rw [if_neg c0] at h
    by_cases c1 : X.1 1 2 ≤ x
    · rw [if_pos c1] at h; cases h
    · rw [if_neg c1] at h
      by_cases c2 : 24 ≤ x
      · rw [if_pos c2] at h; cases h
      · exact ix_ok (N := 24) (n := 24) rfl (Int32.not_lt.mp c0) (Int32.not_le.mp c2)
def f_Source_agrees (x : Int32) (y : Int32) (z : Int32) (u : Int32) (X : XS) : Option Bool := (if f_Source_isRoutine (f_Source_routineOfName x X) X = true then (ocz (X.2.1 2 (f_Source_routineOfName x X).toNatClampNeg) none (fun a3 => (if (xT X a3 = some (12, 0)) then (if ¬ X.1 a3 2 = y then some false else (ocz (X.2.1 2 (f_Source_routineOfName x X).toNatClampNeg) none (fun a7 => (if (xT X a7 = some (12, 0)) then (if ¬ X.1 a7 3 = z then some false else (ocz (X.2.1 2 (f_Source_routineOfName x X).toNatClampNeg) none (fun a11 => (if (xT X a11 = some (12, 0)) then (if ¬ X.1 a11 4 = u then some false else some true) else none)))) else none)))) else none))) else some true)
set_option maxRecDepth 100000 in
set_option maxHeartbeats 4000000 in
theorem s_Source_agrees {L : Nat} {xs : Nat → Int32} {X : XS} {M : MS} {x : Int32} {y : Int32} {z : Int32} {u : Int32} : Sp (mjOO L xs) 270 0 [some (.ref 1), some (.int x), some (.int y), some (.int z), some (.int u), none] [] (hS X M) (f_Source_agrees x y z u X) (KB (hS X M)) := by
  unfold f_Source_agrees
  refine Sp.step rfl rfl rfl rfl ?_
  refine Sp.step rfl rfl rfl rfl ?_
  refine Sp.callS rfl rfl rfl (xrecv (c := 8) (by decide) rfl (by decide +kernel)) s_Source_routineOfName ⟨rfl, rfl⟩ ?_
  refine Sp.id (pc := 5) (l := [some (.ref 1), some (.int x), some (.int y), some (.int z), some (.int u), none]) (st := [.int (f_Source_routineOfName x X)]) (h := hS X M) ?_
  refine Sp.step rfl rfl rfl rfl ?_
  refine Sp.step rfl rfl rfl rfl ?_
  refine Sp.step rfl rfl rfl rfl ?_
  refine Sp.callS rfl rfl rfl (xrecv (c := 8) (by decide) rfl (by decide +kernel)) s_Source_isRoutine ⟨rfl, rfl⟩ ?_
  refine Sp.bool (fun e1 => ?_) (fun e1 => ?_)
  · refine Sp.id (pc := 13) (l := [some (.ref 1), some (.int x), some (.int y), some (.int z), some (.int u), some (.int (f_Source_routineOfName x X))]) (st := [.int 1]) (h := hS X M) ?_
    refine Sp.step rfl rfl rfl rfl ?_
    refine Sp.step rfl rfl rfl rfl ?_
    refine Sp.step rfl rfl rfl (xg_F (c := 8) (f := 0) rfl rfl rfl rfl rfl) ?_
    refine Sp.step rfl rfl rfl rfl ?_
    refine Sp.step rfl rfl rfl (xald (t := 3) rfl (by decide) (fun _ => rfl) (isRoutine_ix e1)) ?_
    refine Sp.ocrn (fun a3 e4 => ?_)
    refine Sp.guard (fun e5 => ?_)
    refine Sp.step rfl rfl rfl (xg_I (c := 7) (f := 2) rfl rfl e5 rfl) ?_
    refine Sp.step rfl rfl rfl rfl ?_
    refine Sp.if2 rfl rfl rfl rfl (fun e6 => ?_) (fun e6 => ?_)
    · refine Sp.step rfl rfl rfl rfl ?_
      exact Sp.iret rfl rfl rfl rfl (fun _ _ h => h)
    · refine Sp.step rfl rfl rfl rfl ?_
      refine Sp.step rfl rfl rfl (xg_F (c := 8) (f := 0) rfl rfl rfl rfl rfl) ?_
      refine Sp.step rfl rfl rfl rfl ?_
      refine Sp.step rfl rfl rfl (xald (t := 3) rfl (by decide) (fun _ => rfl) (isRoutine_ix e1)) ?_
      refine Sp.ocrn (fun a7 e8 => ?_)
      refine Sp.guard (fun e9 => ?_)
      refine Sp.step rfl rfl rfl (xg_I (c := 7) (f := 3) rfl rfl e9 rfl) ?_
      refine Sp.step rfl rfl rfl rfl ?_
      refine Sp.if2 rfl rfl rfl rfl (fun e10 => ?_) (fun e10 => ?_)
      · refine Sp.step rfl rfl rfl rfl ?_
        exact Sp.iret rfl rfl rfl rfl (fun _ _ h => h)
      · refine Sp.step rfl rfl rfl rfl ?_
        refine Sp.step rfl rfl rfl (xg_F (c := 8) (f := 0) rfl rfl rfl rfl rfl) ?_
        refine Sp.step rfl rfl rfl rfl ?_
        refine Sp.step rfl rfl rfl (xald (t := 3) rfl (by decide) (fun _ => rfl) (isRoutine_ix e1)) ?_
        refine Sp.ocrn (fun a11 e12 => ?_)
        refine Sp.guard (fun e13 => ?_)
        refine Sp.step rfl rfl rfl (xg_I (c := 7) (f := 4) rfl rfl e13 rfl) ?_
        refine Sp.step rfl rfl rfl rfl ?_
        refine Sp.if2 rfl rfl rfl rfl (fun e14 => ?_) (fun e14 => ?_)
        · refine Sp.step rfl rfl rfl rfl ?_
          exact Sp.iret rfl rfl rfl rfl (fun _ _ h => h)
        · refine Sp.step rfl rfl rfl rfl ?_
          refine Sp.step rfl rfl rfl rfl ?_
          exact Sp.iret rfl rfl rfl rfl (fun _ _ h => h)
  · refine Sp.id (pc := 13) (l := [some (.ref 1), some (.int x), some (.int y), some (.int z), some (.int u), some (.int (f_Source_routineOfName x X))]) (st := [.int 0]) (h := hS X M) ?_
    refine Sp.step rfl rfl rfl rfl ?_
    refine Sp.step rfl rfl rfl rfl ?_
    refine Sp.step rfl rfl rfl rfl ?_
    exact Sp.iret rfl rfl rfl rfl (fun _ _ h => h)
def f_Routine_init (x : Nat) (X : XS) : Option XS := (lt (xn X 0 60) fun X1 => (if (xT X1 x = some (12, 0)) then (lt (xp X1 x 7 (some (xA X))) fun X3 => (lt (xn X3 0 60) fun X4 => (if (xT X4 x = some (12, 0)) then (lt (xp X4 x 8 (some (xA X3))) fun X6 => (lt (xn X6 0 6) fun X7 => (if (xT X7 x = some (12, 0)) then (lt (xp X7 x 10 (some (xA X6))) fun X9 => (lt (xn X9 0 6) fun X10 => (if (xT X10 x = some (12, 0)) then (lt (xp X10 x 11 (some (xA X9))) fun X12 => (lt (xn X12 0 6) fun X13 => (if (xT X13 x = some (12, 0)) then (lt (xp X13 x 12 (some (xA X12))) fun X15 => (lt (xn X15 0 6) fun X16 => (if (xT X16 x = some (12, 0)) then (lt (xp X16 x 13 (some (xA X15))) fun X18 => some X18) else none))) else none))) else none))) else none))) else none))) else none))
set_option maxRecDepth 100000 in
set_option maxHeartbeats 4000000 in
theorem s_Routine_init {L : Nat} {xs : Nat → Int32} {X : XS} {M : MS} {x : Nat} : Sp (mjOO L xs) 256 0 [some (.ref x)] [] (hS X M) (f_Routine_init x X) (KVX M) := by
  unfold f_Routine_init
  refine Sp.step rfl rfl rfl rfl ?_
  refine Sp.oinit rfl rfl ⟨by decide, by decide, rfl⟩ ?_
  refine Sp.step rfl rfl rfl rfl ?_
  refine Sp.step rfl rfl rfl rfl ?_
  refine Sp.step rfl rfl rfl (xnewK (t := 0) (n := 60) (k := 60) rfl (by decide) rfl (by decide)) ?_
  refine Sp.guard (fun e2 => ?_)
  refine Sp.step rfl rfl rfl (xp_R (c := 7) (f := 7) rfl rfl e2 rfl (fxP_big (dyn_of (c := 7) e2 rfl)) rfl) ?_
  refine Sp.step rfl rfl rfl rfl ?_
  refine Sp.step rfl rfl rfl rfl ?_
  refine Sp.step rfl rfl rfl (xnewK (t := 0) (n := 60) (k := 60) rfl (by decide) rfl (by decide)) ?_
  refine Sp.guard (fun e5 => ?_)
  refine Sp.step rfl rfl rfl (xp_R (c := 7) (f := 8) rfl rfl e5 rfl (fxP_big (dyn_of (c := 7) e5 rfl)) rfl) ?_
  refine Sp.step rfl rfl rfl rfl ?_
  refine Sp.step rfl rfl rfl rfl ?_
  refine Sp.step rfl rfl rfl (xnewK (t := 0) (n := 6) (k := 6) rfl (by decide) rfl (by decide)) ?_
  refine Sp.guard (fun e8 => ?_)
  refine Sp.step rfl rfl rfl (xp_R (c := 7) (f := 10) rfl rfl e8 rfl (fxP_big (dyn_of (c := 7) e8 rfl)) rfl) ?_
  refine Sp.step rfl rfl rfl rfl ?_
  refine Sp.step rfl rfl rfl rfl ?_
  refine Sp.step rfl rfl rfl (xnewK (t := 0) (n := 6) (k := 6) rfl (by decide) rfl (by decide)) ?_
  refine Sp.guard (fun e11 => ?_)
  refine Sp.step rfl rfl rfl (xp_R (c := 7) (f := 11) rfl rfl e11 rfl (fxP_big (dyn_of (c := 7) e11 rfl)) rfl) ?_
  refine Sp.step rfl rfl rfl rfl ?_
  refine Sp.step rfl rfl rfl rfl ?_
  refine Sp.step rfl rfl rfl (xnewK (t := 0) (n := 6) (k := 6) rfl (by decide) rfl (by decide)) ?_
  refine Sp.guard (fun e14 => ?_)
  refine Sp.step rfl rfl rfl (xp_R (c := 7) (f := 12) rfl rfl e14 rfl (fxP_big (dyn_of (c := 7) e14 rfl)) rfl) ?_
  refine Sp.step rfl rfl rfl rfl ?_
  refine Sp.step rfl rfl rfl rfl ?_
  refine Sp.step rfl rfl rfl (xnewK (t := 0) (n := 6) (k := 6) rfl (by decide) rfl (by decide)) ?_
  refine Sp.guard (fun e17 => ?_)
  refine Sp.step rfl rfl rfl (xp_R (c := 7) (f := 13) rfl rfl e17 rfl (fxP_big (dyn_of (c := 7) e17 rfl)) rfl) ?_
  exact Sp.vret rfl rfl rfl (fun _ _ h => h)
def f_Source_enlist (x : Nat) (y : Int32) (X : XS) : Option XS := (if (xT X x = some (12, 0)) then (if 0 ≤ X.1 x 1 ∧ X.1 x 1 ≤ 7 then (if f_Source_isKind (X.1 x 0) X = true then (if ixo (((X.1 x 0) * 8) + (X.1 x 1)) 80 then (lt (xw X 8 (((X.1 x 0) * 8) + (X.1 x 1)).toNatClampNeg y) fun X7 => (if ixo (X7.1 x 1) 8 then (if ¬ X7.1 9 (X7.1 x 1).toNatClampNeg = (-1) then some X7 else (lt (xw X7 9 (X7.1 x 1).toNatClampNeg y) fun X10 => some X10)) else none)) else none) else some X) else some X) else none)
set_option maxRecDepth 100000 in
set_option maxHeartbeats 4000000 in
theorem s_Source_enlist {L : Nat} {xs : Nat → Int32} {X : XS} {M : MS} {x : Nat} {y : Int32} : Sp (mjOO L xs) 271 0 [some (.ref 1), some (.ref x), some (.int y)] [] (hS X M) (f_Source_enlist x y X) (KVX M) := by
  unfold f_Source_enlist
  refine Sp.step rfl rfl rfl rfl ?_
  refine Sp.guard (fun e1 => ?_)
  refine Sp.step rfl rfl rfl (xg_I (c := 7) (f := 1) rfl rfl e1 rfl) ?_
  refine Sp.step rfl rfl rfl rfl ?_
  refine Sp.step rfl rfl rfl rfl ?_
  refine Sp.callP rfl rfl rfl rfl s_within (fun e2 => ?_) (fun e2 => ?_)
  · refine Sp.id (pc := 10) (l := [some (.ref 1), some (.ref x), some (.int y)]) (st := [.int 1]) (h := hS X M) ?_
    refine Sp.step rfl rfl rfl rfl ?_
    refine Sp.step rfl rfl rfl rfl ?_
    refine Sp.step rfl rfl rfl rfl ?_
    refine Sp.step rfl rfl rfl (xg_I (c := 7) (f := 0) rfl rfl e1 rfl) ?_
    refine Sp.callS rfl rfl rfl (xrecv (c := 8) (by decide) rfl (by decide +kernel)) s_Source_isKind ⟨rfl, rfl⟩ ?_
    refine Sp.bool (fun e4 => ?_) (fun e4 => ?_)
    · refine Sp.id (pc := 21) (l := [some (.ref 1), some (.ref x), some (.int y)]) (st := [.int 1]) (h := hS X M) ?_
      refine Sp.step rfl rfl rfl rfl ?_
      refine Sp.step rfl rfl rfl rfl ?_
      refine Sp.step rfl rfl rfl (xg_F (c := 8) (f := 8) rfl rfl rfl rfl rfl) ?_
      refine Sp.step rfl rfl rfl rfl ?_
      refine Sp.step rfl rfl rfl (xg_I (c := 7) (f := 0) rfl rfl e1 rfl) ?_
      refine Sp.step rfl rfl rfl rfl ?_
      refine Sp.step rfl rfl rfl rfl ?_
      refine Sp.step rfl rfl rfl rfl ?_
      refine Sp.step rfl rfl rfl (xg_I (c := 7) (f := 1) rfl rfl e1 rfl) ?_
      refine Sp.step rfl rfl rfl rfl ?_
      refine Sp.step rfl rfl rfl rfl ?_
      refine Sp.guard (fun e6 => ?_)
      refine Sp.step rfl rfl rfl (xst rfl (by decide) e6) ?_
      refine Sp.step rfl rfl rfl rfl ?_
      refine Sp.step rfl rfl rfl (xg_F (c := 8) (f := 9) rfl rfl rfl rfl rfl) ?_
      refine Sp.step rfl rfl rfl rfl ?_
      refine Sp.step rfl rfl rfl (xg_I (c := 7) (f := 1) rfl rfl e1 rfl) ?_
      refine Sp.guard (fun e8 => ?_)
      refine Sp.step rfl rfl rfl (xld rfl (by decide) e8) ?_
      refine Sp.step rfl rfl rfl rfl ?_
      refine Sp.if2 rfl rfl rfl rfl (fun e9 => ?_) (fun e9 => ?_)
      · exact Sp.vret rfl rfl rfl (fun _ _ h => h)
      · refine Sp.step rfl rfl rfl rfl ?_
        refine Sp.step rfl rfl rfl (xg_F (c := 8) (f := 9) rfl rfl rfl rfl rfl) ?_
        refine Sp.step rfl rfl rfl rfl ?_
        refine Sp.step rfl rfl rfl (xg_I (c := 7) (f := 1) rfl rfl e1 rfl) ?_
        refine Sp.step rfl rfl rfl rfl ?_
        refine Sp.step rfl rfl rfl (xst rfl (by decide) e8) ?_
        exact Sp.vret rfl rfl rfl (fun _ _ h => h)
    · refine Sp.id (pc := 21) (l := [some (.ref 1), some (.ref x), some (.int y)]) (st := [.int 0]) (h := hS X M) ?_
      refine Sp.step rfl rfl rfl rfl ?_
      exact Sp.vret rfl rfl rfl (fun _ _ h => h)
  · refine Sp.id (pc := 10) (l := [some (.ref 1), some (.ref x), some (.int y)]) (st := [.int 0]) (h := hS X M) ?_
    refine Sp.step rfl rfl rfl rfl ?_
    exact Sp.vret rfl rfl rfl (fun _ _ h => h)
def f_Source_addRoutine (x : Int32) (y : Int32) (z : Int32) (u : Int32) (v : Int32) (t : Int32) (X : XS) : Option (Int32 × XS) := (if f_Source_isKind x X = true then (if y = (-2) then (if 0 ≤ z ∧ z ≤ 4 then (if 0 ≤ v ∧ v ≤ 2 then (if 24 ≤ X.1 1 2 then some ((-1), X) else (if 0 ≤ u ∧ u ≤ ((1 : Int32) <<< ((z : Int32) &&& 31)) - 1 then (if z ≤ t ∧ t ≤ 12 then ((f_Source_ownRoutine x y X).bind fun x15 => (if ¬ x15 = (-1) then some ((-1), X) else ((f_Source_agrees y z u v X).bind fun x17 => (if x17 = true then (lt (xn X 12 0) fun X20 => (if (xT X20 (xA X) = some (12, 0)) then ((f_Routine_init (xA X) X20).bind fun x22 => (if (xT x22 (xA X) = some (12, 0)) then (lt (xw x22 (xA X) 0 x) fun X24 => (lt (xw X24 (xA X) 1 y) fun X25 => (lt (xw X25 (xA X) 2 z) fun X26 => (lt (xw X26 (xA X) 3 u) fun X27 => (lt (xw X27 (xA X) 4 v) fun X28 => (lt (xw X28 (xA X) 5 t) fun X29 => (if ixo (X29.1 1 2) 24 then (lt (xp X29 2 (X29.1 1 2).toNatClampNeg (some (xA X))) fun X31 => ((f_Source_enlist (xA X) (X31.1 1 2) X31).bind fun x32 => (lt (xw x32 1 2 ((x32.1 1 2) + 1)) fun X33 => some (x32.1 1 2, X33)))) else none))))))) else none)) else none)) else some ((-1), X))))) else some ((-1), X)) else some ((-1), X))) else some ((-1), X)) else some ((-1), X)) else (if 0 ≤ y ∧ y ≤ 7 then (if 0 ≤ z ∧ z ≤ 4 then (if 0 ≤ v ∧ v ≤ 2 then (if 24 ≤ X.1 1 2 then some ((-1), X) else (if 0 ≤ u ∧ u ≤ ((1 : Int32) <<< ((z : Int32) &&& 31)) - 1 then (if z + 1 ≤ t ∧ t ≤ 12 then ((f_Source_ownRoutine x y X).bind fun x54 => (if ¬ x54 = (-1) then some ((-1), X) else ((f_Source_agrees y z u v X).bind fun x56 => (if x56 = true then (lt (xn X 12 0) fun X59 => (if (xT X59 (xA X) = some (12, 0)) then ((f_Routine_init (xA X) X59).bind fun x61 => (if (xT x61 (xA X) = some (12, 0)) then (lt (xw x61 (xA X) 0 x) fun X63 => (lt (xw X63 (xA X) 1 y) fun X64 => (lt (xw X64 (xA X) 2 z) fun X65 => (lt (xw X65 (xA X) 3 u) fun X66 => (lt (xw X66 (xA X) 4 v) fun X67 => (lt (xw X67 (xA X) 5 t) fun X68 => (if ixo (X68.1 1 2) 24 then (lt (xp X68 2 (X68.1 1 2).toNatClampNeg (some (xA X))) fun X70 => ((f_Source_enlist (xA X) (X70.1 1 2) X70).bind fun x71 => (lt (xw x71 1 2 ((x71.1 1 2) + 1)) fun X72 => some (x71.1 1 2, X72)))) else none))))))) else none)) else none)) else some ((-1), X))))) else some ((-1), X)) else some ((-1), X))) else some ((-1), X)) else some ((-1), X)) else some ((-1), X))) else some ((-1), X))
set_option maxRecDepth 100000 in
set_option maxHeartbeats 4000000 in
theorem s_Source_addRoutine {L : Nat} {xs : Nat → Int32} {X : XS} {M : MS} {x : Int32} {y : Int32} {z : Int32} {u : Int32} {v : Int32} {t : Int32} : Sp (mjOO L xs) 269 0 [some (.ref 1), some (.int x), some (.int y), some (.int z), some (.int u), some (.int v), some (.int t), none, none, none] [] (hS X M) (f_Source_addRoutine x y z u v t X) (KEX M) := by
  unfold f_Source_addRoutine
  refine Sp.step rfl rfl rfl rfl ?_
  refine Sp.step rfl rfl rfl rfl ?_
  refine Sp.callS rfl rfl rfl (xrecv (c := 8) (by decide) rfl (by decide +kernel)) s_Source_isKind ⟨rfl, rfl⟩ ?_
  refine Sp.bool (fun e1 => ?_) (fun e1 => ?_)
  · refine Sp.id (pc := 5) (l := [some (.ref 1), some (.int x), some (.int y), some (.int z), some (.int u), some (.int v), some (.int t), none, none, none]) (st := [.int 1]) (h := hS X M) ?_
    refine Sp.step rfl rfl rfl rfl ?_
    refine Sp.step rfl rfl rfl rfl ?_
    refine Sp.step rfl rfl rfl rfl ?_
    refine Sp.if2 rfl rfl rfl rfl (fun e3 => ?_) (fun e3 => ?_)
    · refine Sp.step rfl rfl rfl rfl ?_
      refine Sp.step rfl rfl rfl rfl ?_
      refine Sp.step rfl rfl rfl rfl ?_
      refine Sp.callP rfl rfl rfl rfl s_within (fun e4 => ?_) (fun e4 => ?_)
      · refine Sp.id (pc := 30) (l := [some (.ref 1), some (.int x), some (.int y), some (.int z), some (.int u), some (.int v), some (.int t), none, none, none]) (st := [.int 1]) (h := hS X M) ?_
        refine Sp.step rfl rfl rfl rfl ?_
        refine Sp.step rfl rfl rfl rfl ?_
        refine Sp.step rfl rfl rfl rfl ?_
        refine Sp.step rfl rfl rfl rfl ?_
        refine Sp.callP rfl rfl rfl rfl s_within (fun e6 => ?_) (fun e6 => ?_)
        · refine Sp.id (pc := 40) (l := [some (.ref 1), some (.int x), some (.int y), some (.int z), some (.int u), some (.int v), some (.int t), none, none, none]) (st := [.int 1]) (h := hS X M) ?_
          refine Sp.step rfl rfl rfl rfl ?_
          refine Sp.step rfl rfl rfl rfl ?_
          refine Sp.step rfl rfl rfl rfl ?_
          refine Sp.step rfl rfl rfl rfl ?_
          refine Sp.step rfl rfl rfl rfl ?_
          refine Sp.step rfl rfl rfl rfl ?_
          refine Sp.step rfl rfl rfl rfl ?_
          refine Sp.step rfl rfl rfl (xg_I (c := 8) (f := 2) rfl rfl rfl rfl) ?_
          refine Sp.step rfl rfl rfl rfl ?_
          refine Sp.if2 rfl rfl rfl rfl (fun e9 => ?_) (fun e9 => ?_)
          · refine Sp.step rfl rfl rfl rfl ?_
            exact Sp.iret rfl rfl rfl rfl (fun _ _ h => h)
          · refine Sp.step rfl rfl rfl rfl ?_
            refine Sp.step rfl rfl rfl rfl ?_
            refine Sp.step rfl rfl rfl rfl ?_
            refine Sp.step rfl rfl rfl rfl ?_
            refine Sp.step rfl rfl rfl rfl ?_
            refine Sp.step rfl rfl rfl rfl ?_
            refine Sp.step rfl rfl rfl rfl ?_
            refine Sp.callP rfl rfl rfl rfl s_within (fun e10 => ?_) (fun e10 => ?_)
            · refine Sp.id (pc := 75) (l := [some (.ref 1), some (.int x), some (.int y), some (.int z), some (.int u), some (.int v), some (.int t), some (.int 1), none, none]) (st := [.int 1]) (h := hS X M) ?_
              refine Sp.step rfl rfl rfl rfl ?_
              refine Sp.step rfl rfl rfl rfl ?_
              refine Sp.step rfl rfl rfl rfl ?_
              refine Sp.prune (c := ¬ y = (-2)) ?_
              refine Sp.if2 rfl rfl rfl rfl (fun e12 => absurd e12 (fun h => h e3)) (fun e12 => ?_)
              refine Sp.step rfl rfl rfl rfl ?_
              refine Sp.step rfl rfl rfl rfl ?_
              refine Sp.step rfl rfl rfl rfl ?_
              refine Sp.step rfl rfl rfl rfl ?_
              refine Sp.step rfl rfl rfl rfl ?_
              refine Sp.step rfl rfl rfl rfl ?_
              refine Sp.callP rfl rfl rfl rfl s_within (fun e13 => ?_) (fun e13 => ?_)
              · refine Sp.id (pc := 104) (l := [some (.ref 1), some (.int x), some (.int y), some (.int z), some (.int u), some (.int v), some (.int t), some (.int 1), some (.int z), none]) (st := [.int 1]) (h := hS X M) ?_
                refine Sp.step rfl rfl rfl rfl ?_
                refine Sp.step rfl rfl rfl rfl ?_
                refine Sp.step rfl rfl rfl rfl ?_
                refine Sp.step rfl rfl rfl rfl ?_
                refine Sp.call rfl rfl rfl (xrecv (c := 8) (by decide) rfl (by decide +kernel)) s_Source_ownRoutine (fun x15 => ⟨_, _, ⟨rfl, rfl⟩, ?_⟩)
                refine Sp.id (pc := 113) (l := [some (.ref 1), some (.int x), some (.int y), some (.int z), some (.int u), some (.int v), some (.int t), some (.int 1), some (.int z), none]) (st := [.int x15]) (h := hS X M) ?_
                refine Sp.step rfl rfl rfl rfl ?_
                refine Sp.if2 rfl rfl rfl rfl (fun e16 => ?_) (fun e16 => ?_)
                · refine Sp.step rfl rfl rfl rfl ?_
                  exact Sp.iret rfl rfl rfl rfl (fun _ _ h => h)
                · refine Sp.step rfl rfl rfl rfl ?_
                  refine Sp.step rfl rfl rfl rfl ?_
                  refine Sp.step rfl rfl rfl rfl ?_
                  refine Sp.step rfl rfl rfl rfl ?_
                  refine Sp.step rfl rfl rfl rfl ?_
                  refine Sp.call rfl rfl rfl (xrecv (c := 8) (by decide) rfl (by decide +kernel)) s_Source_agrees (fun x17 => ⟨_, _, ⟨rfl, rfl⟩, ?_⟩)
                  refine Sp.bool (fun e18 => ?_) (fun e18 => ?_)
                  · refine Sp.id (pc := 127) (l := [some (.ref 1), some (.int x), some (.int y), some (.int z), some (.int u), some (.int v), some (.int t), some (.int 1), some (.int z), none]) (st := [.int 1]) (h := hS X M) ?_
                    refine Sp.step rfl rfl rfl rfl ?_
                    refine Sp.step rfl rfl rfl (xnewO (c := 7) rfl (fun _ => rfl)) ?_
                    refine Sp.step rfl rfl rfl rfl ?_
                    refine Sp.guard (fun e21 => ?_)
                    refine Sp.call rfl rfl rfl (xrecv (c := 7) (by decide) e21 (by decide +kernel)) s_Routine_init (fun x22 => ⟨_, _, ⟨rfl, rfl⟩, ?_⟩)
                    refine Sp.id (pc := 139) (l := [some (.ref 1), some (.int x), some (.int y), some (.int z), some (.int u), some (.int v), some (.int t), some (.int 1), some (.int z), none]) (st := [.ref (xA X)]) (h := hS x22 M) ?_
                    refine Sp.step rfl rfl rfl rfl ?_
                    refine Sp.step rfl rfl rfl rfl ?_
                    refine Sp.step rfl rfl rfl rfl ?_
                    refine Sp.guard (fun e23 => ?_)
                    refine Sp.step rfl rfl rfl (xp_I (c := 7) (f := 0) rfl rfl e23 rfl rfl) ?_
                    refine Sp.step rfl rfl rfl rfl ?_
                    refine Sp.step rfl rfl rfl rfl ?_
                    refine Sp.step rfl rfl rfl (xp_I (c := 7) (f := 1) rfl rfl e23 rfl rfl) ?_
                    refine Sp.step rfl rfl rfl rfl ?_
                    refine Sp.step rfl rfl rfl rfl ?_
                    refine Sp.step rfl rfl rfl (xp_I (c := 7) (f := 2) rfl rfl e23 rfl rfl) ?_
                    refine Sp.step rfl rfl rfl rfl ?_
                    refine Sp.step rfl rfl rfl rfl ?_
                    refine Sp.step rfl rfl rfl (xp_I (c := 7) (f := 3) rfl rfl e23 rfl rfl) ?_
                    refine Sp.step rfl rfl rfl rfl ?_
                    refine Sp.step rfl rfl rfl rfl ?_
                    refine Sp.step rfl rfl rfl (xp_I (c := 7) (f := 4) rfl rfl e23 rfl rfl) ?_
                    refine Sp.step rfl rfl rfl rfl ?_
                    refine Sp.step rfl rfl rfl rfl ?_
                    refine Sp.step rfl rfl rfl (xp_I (c := 7) (f := 5) rfl rfl e23 rfl rfl) ?_
                    refine Sp.step rfl rfl rfl rfl ?_
                    refine Sp.step rfl rfl rfl (xg_F (c := 8) (f := 0) rfl rfl rfl rfl rfl) ?_
                    refine Sp.step rfl rfl rfl rfl ?_
                    refine Sp.step rfl rfl rfl (xg_I (c := 8) (f := 2) rfl rfl rfl rfl) ?_
                    refine Sp.step rfl rfl rfl rfl ?_
                    refine Sp.guard (fun e30 => ?_)
                    refine Sp.step rfl rfl rfl (xast (t := 3) (c := 7) rfl (by decide) (fun _ => rfl) e30 e23 (by decide +kernel)) ?_
                    refine Sp.step rfl rfl rfl rfl ?_
                    refine Sp.step rfl rfl rfl rfl ?_
                    refine Sp.step rfl rfl rfl rfl ?_
                    refine Sp.step rfl rfl rfl (xg_I (c := 8) (f := 2) rfl rfl rfl rfl) ?_
                    refine Sp.call rfl rfl rfl (xrecv (c := 8) (by decide) rfl (by decide +kernel)) s_Source_enlist (fun x32 => ⟨_, _, ⟨rfl, rfl⟩, ?_⟩)
                    refine Sp.id (pc := 201) (l := [some (.ref 1), some (.int x), some (.int y), some (.int z), some (.int u), some (.int v), some (.int t), some (.int 1), some (.int z), some (.ref (xA X))]) (st := []) (h := hS x32 M) ?_
                    refine Sp.step rfl rfl rfl rfl ?_
                    refine Sp.step rfl rfl rfl rfl ?_
                    refine Sp.step rfl rfl rfl (xg_I (c := 8) (f := 2) rfl rfl rfl rfl) ?_
                    refine Sp.step rfl rfl rfl rfl ?_
                    refine Sp.step rfl rfl rfl rfl ?_
                    refine Sp.step rfl rfl rfl rfl ?_
                    refine Sp.step rfl rfl rfl (xp_I (c := 8) (f := 2) rfl rfl rfl rfl rfl) ?_
                    exact Sp.iret rfl rfl rfl rfl (fun _ _ h => h)
                  · refine Sp.id (pc := 127) (l := [some (.ref 1), some (.int x), some (.int y), some (.int z), some (.int u), some (.int v), some (.int t), some (.int 1), some (.int z), none]) (st := [.int 0]) (h := hS X M) ?_
                    refine Sp.step rfl rfl rfl rfl ?_
                    refine Sp.step rfl rfl rfl rfl ?_
                    exact Sp.iret rfl rfl rfl rfl (fun _ _ h => h)
              · refine Sp.id (pc := 104) (l := [some (.ref 1), some (.int x), some (.int y), some (.int z), some (.int u), some (.int v), some (.int t), some (.int 1), some (.int z), none]) (st := [.int 0]) (h := hS X M) ?_
                refine Sp.step rfl rfl rfl rfl ?_
                refine Sp.step rfl rfl rfl rfl ?_
                exact Sp.iret rfl rfl rfl rfl (fun _ _ h => h)
            · refine Sp.id (pc := 75) (l := [some (.ref 1), some (.int x), some (.int y), some (.int z), some (.int u), some (.int v), some (.int t), some (.int 1), none, none]) (st := [.int 0]) (h := hS X M) ?_
              refine Sp.step rfl rfl rfl rfl ?_
              refine Sp.step rfl rfl rfl rfl ?_
              exact Sp.iret rfl rfl rfl rfl (fun _ _ h => h)
        · refine Sp.id (pc := 40) (l := [some (.ref 1), some (.int x), some (.int y), some (.int z), some (.int u), some (.int v), some (.int t), none, none, none]) (st := [.int 0]) (h := hS X M) ?_
          refine Sp.step rfl rfl rfl rfl ?_
          refine Sp.step rfl rfl rfl rfl ?_
          refine Sp.step rfl rfl rfl rfl ?_
          refine Sp.step rfl rfl rfl rfl ?_
          refine Sp.step rfl rfl rfl rfl ?_
          refine Sp.step rfl rfl rfl rfl ?_
          exact Sp.iret rfl rfl rfl rfl (fun _ _ h => h)
      · refine Sp.id (pc := 30) (l := [some (.ref 1), some (.int x), some (.int y), some (.int z), some (.int u), some (.int v), some (.int t), none, none, none]) (st := [.int 0]) (h := hS X M) ?_
        refine Sp.step rfl rfl rfl rfl ?_
        refine Sp.step rfl rfl rfl rfl ?_
        refine Sp.step rfl rfl rfl rfl ?_
        refine Sp.step rfl rfl rfl rfl ?_
        refine Sp.step rfl rfl rfl rfl ?_
        refine Sp.step rfl rfl rfl rfl ?_
        exact Sp.iret rfl rfl rfl rfl (fun _ _ h => h)
    · refine Sp.step rfl rfl rfl rfl ?_
      refine Sp.step rfl rfl rfl rfl ?_
      refine Sp.step rfl rfl rfl rfl ?_
      refine Sp.callP rfl rfl rfl rfl s_within (fun e41 => ?_) (fun e41 => ?_)
      · refine Sp.id (pc := 21) (l := [some (.ref 1), some (.int x), some (.int y), some (.int z), some (.int u), some (.int v), some (.int t), none, none, none]) (st := [.int 1]) (h := hS X M) ?_
        refine Sp.step rfl rfl rfl rfl ?_
        refine Sp.step rfl rfl rfl rfl ?_
        refine Sp.step rfl rfl rfl rfl ?_
        refine Sp.step rfl rfl rfl rfl ?_
        refine Sp.callP rfl rfl rfl rfl s_within (fun e43 => ?_) (fun e43 => ?_)
        · refine Sp.id (pc := 30) (l := [some (.ref 1), some (.int x), some (.int y), some (.int z), some (.int u), some (.int v), some (.int t), none, none, none]) (st := [.int 1]) (h := hS X M) ?_
          refine Sp.step rfl rfl rfl rfl ?_
          refine Sp.step rfl rfl rfl rfl ?_
          refine Sp.step rfl rfl rfl rfl ?_
          refine Sp.step rfl rfl rfl rfl ?_
          refine Sp.callP rfl rfl rfl rfl s_within (fun e45 => ?_) (fun e45 => ?_)
          · refine Sp.id (pc := 40) (l := [some (.ref 1), some (.int x), some (.int y), some (.int z), some (.int u), some (.int v), some (.int t), none, none, none]) (st := [.int 1]) (h := hS X M) ?_
            refine Sp.step rfl rfl rfl rfl ?_
            refine Sp.step rfl rfl rfl rfl ?_
            refine Sp.step rfl rfl rfl rfl ?_
            refine Sp.step rfl rfl rfl rfl ?_
            refine Sp.step rfl rfl rfl rfl ?_
            refine Sp.step rfl rfl rfl rfl ?_
            refine Sp.step rfl rfl rfl rfl ?_
            refine Sp.step rfl rfl rfl (xg_I (c := 8) (f := 2) rfl rfl rfl rfl) ?_
            refine Sp.step rfl rfl rfl rfl ?_
            refine Sp.if2 rfl rfl rfl rfl (fun e48 => ?_) (fun e48 => ?_)
            · refine Sp.step rfl rfl rfl rfl ?_
              exact Sp.iret rfl rfl rfl rfl (fun _ _ h => h)
            · refine Sp.step rfl rfl rfl rfl ?_
              refine Sp.step rfl rfl rfl rfl ?_
              refine Sp.step rfl rfl rfl rfl ?_
              refine Sp.step rfl rfl rfl rfl ?_
              refine Sp.step rfl rfl rfl rfl ?_
              refine Sp.step rfl rfl rfl rfl ?_
              refine Sp.step rfl rfl rfl rfl ?_
              refine Sp.callP rfl rfl rfl rfl s_within (fun e49 => ?_) (fun e49 => ?_)
              · refine Sp.id (pc := 75) (l := [some (.ref 1), some (.int x), some (.int y), some (.int z), some (.int u), some (.int v), some (.int t), some (.int 1), none, none]) (st := [.int 1]) (h := hS X M) ?_
                refine Sp.step rfl rfl rfl rfl ?_
                refine Sp.step rfl rfl rfl rfl ?_
                refine Sp.step rfl rfl rfl rfl ?_
                refine Sp.prune (c := ¬ y = (-2)) ?_
                refine Sp.if2 rfl rfl rfl rfl (fun e51 => ?_) (fun e51 => absurd e3 e51)
                refine Sp.step rfl rfl rfl rfl ?_
                refine Sp.step rfl rfl rfl rfl ?_
                refine Sp.step rfl rfl rfl rfl ?_
                refine Sp.step rfl rfl rfl rfl ?_
                refine Sp.step rfl rfl rfl rfl ?_
                refine Sp.step rfl rfl rfl rfl ?_
                refine Sp.step rfl rfl rfl rfl ?_
                refine Sp.callP rfl rfl rfl rfl s_within (fun e52 => ?_) (fun e52 => ?_)
                · refine Sp.id (pc := 104) (l := [some (.ref 1), some (.int x), some (.int y), some (.int z), some (.int u), some (.int v), some (.int t), some (.int 1), some (.int (z + 1)), none]) (st := [.int 1]) (h := hS X M) ?_
                  refine Sp.step rfl rfl rfl rfl ?_
                  refine Sp.step rfl rfl rfl rfl ?_
                  refine Sp.step rfl rfl rfl rfl ?_
                  refine Sp.step rfl rfl rfl rfl ?_
                  refine Sp.call rfl rfl rfl (xrecv (c := 8) (by decide) rfl (by decide +kernel)) s_Source_ownRoutine (fun x54 => ⟨_, _, ⟨rfl, rfl⟩, ?_⟩)
                  refine Sp.id (pc := 113) (l := [some (.ref 1), some (.int x), some (.int y), some (.int z), some (.int u), some (.int v), some (.int t), some (.int 1), some (.int (z + 1)), none]) (st := [.int x54]) (h := hS X M) ?_
                  refine Sp.step rfl rfl rfl rfl ?_
                  refine Sp.if2 rfl rfl rfl rfl (fun e55 => ?_) (fun e55 => ?_)
                  · refine Sp.step rfl rfl rfl rfl ?_
                    exact Sp.iret rfl rfl rfl rfl (fun _ _ h => h)
                  · refine Sp.step rfl rfl rfl rfl ?_
                    refine Sp.step rfl rfl rfl rfl ?_
                    refine Sp.step rfl rfl rfl rfl ?_
                    refine Sp.step rfl rfl rfl rfl ?_
                    refine Sp.step rfl rfl rfl rfl ?_
                    refine Sp.call rfl rfl rfl (xrecv (c := 8) (by decide) rfl (by decide +kernel)) s_Source_agrees (fun x56 => ⟨_, _, ⟨rfl, rfl⟩, ?_⟩)
                    refine Sp.bool (fun e57 => ?_) (fun e57 => ?_)
                    · refine Sp.id (pc := 127) (l := [some (.ref 1), some (.int x), some (.int y), some (.int z), some (.int u), some (.int v), some (.int t), some (.int 1), some (.int (z + 1)), none]) (st := [.int 1]) (h := hS X M) ?_
                      refine Sp.step rfl rfl rfl rfl ?_
                      refine Sp.step rfl rfl rfl (xnewO (c := 7) rfl (fun _ => rfl)) ?_
                      refine Sp.step rfl rfl rfl rfl ?_
                      refine Sp.guard (fun e60 => ?_)
                      refine Sp.call rfl rfl rfl (xrecv (c := 7) (by decide) e60 (by decide +kernel)) s_Routine_init (fun x61 => ⟨_, _, ⟨rfl, rfl⟩, ?_⟩)
                      refine Sp.id (pc := 139) (l := [some (.ref 1), some (.int x), some (.int y), some (.int z), some (.int u), some (.int v), some (.int t), some (.int 1), some (.int (z + 1)), none]) (st := [.ref (xA X)]) (h := hS x61 M) ?_
                      refine Sp.step rfl rfl rfl rfl ?_
                      refine Sp.step rfl rfl rfl rfl ?_
                      refine Sp.step rfl rfl rfl rfl ?_
                      refine Sp.guard (fun e62 => ?_)
                      refine Sp.step rfl rfl rfl (xp_I (c := 7) (f := 0) rfl rfl e62 rfl rfl) ?_
                      refine Sp.step rfl rfl rfl rfl ?_
                      refine Sp.step rfl rfl rfl rfl ?_
                      refine Sp.step rfl rfl rfl (xp_I (c := 7) (f := 1) rfl rfl e62 rfl rfl) ?_
                      refine Sp.step rfl rfl rfl rfl ?_
                      refine Sp.step rfl rfl rfl rfl ?_
                      refine Sp.step rfl rfl rfl (xp_I (c := 7) (f := 2) rfl rfl e62 rfl rfl) ?_
                      refine Sp.step rfl rfl rfl rfl ?_
                      refine Sp.step rfl rfl rfl rfl ?_
                      refine Sp.step rfl rfl rfl (xp_I (c := 7) (f := 3) rfl rfl e62 rfl rfl) ?_
                      refine Sp.step rfl rfl rfl rfl ?_
                      refine Sp.step rfl rfl rfl rfl ?_
                      refine Sp.step rfl rfl rfl (xp_I (c := 7) (f := 4) rfl rfl e62 rfl rfl) ?_
                      refine Sp.step rfl rfl rfl rfl ?_
                      refine Sp.step rfl rfl rfl rfl ?_
                      refine Sp.step rfl rfl rfl (xp_I (c := 7) (f := 5) rfl rfl e62 rfl rfl) ?_
                      refine Sp.step rfl rfl rfl rfl ?_
                      refine Sp.step rfl rfl rfl (xg_F (c := 8) (f := 0) rfl rfl rfl rfl rfl) ?_
                      refine Sp.step rfl rfl rfl rfl ?_
                      refine Sp.step rfl rfl rfl (xg_I (c := 8) (f := 2) rfl rfl rfl rfl) ?_
                      refine Sp.step rfl rfl rfl rfl ?_
                      refine Sp.guard (fun e69 => ?_)
                      refine Sp.step rfl rfl rfl (xast (t := 3) (c := 7) rfl (by decide) (fun _ => rfl) e69 e62 (by decide +kernel)) ?_
                      refine Sp.step rfl rfl rfl rfl ?_
                      refine Sp.step rfl rfl rfl rfl ?_
                      refine Sp.step rfl rfl rfl rfl ?_
                      refine Sp.step rfl rfl rfl (xg_I (c := 8) (f := 2) rfl rfl rfl rfl) ?_
                      refine Sp.call rfl rfl rfl (xrecv (c := 8) (by decide) rfl (by decide +kernel)) s_Source_enlist (fun x71 => ⟨_, _, ⟨rfl, rfl⟩, ?_⟩)
                      refine Sp.id (pc := 201) (l := [some (.ref 1), some (.int x), some (.int y), some (.int z), some (.int u), some (.int v), some (.int t), some (.int 1), some (.int (z + 1)), some (.ref (xA X))]) (st := []) (h := hS x71 M) ?_
                      refine Sp.step rfl rfl rfl rfl ?_
                      refine Sp.step rfl rfl rfl rfl ?_
                      refine Sp.step rfl rfl rfl (xg_I (c := 8) (f := 2) rfl rfl rfl rfl) ?_
                      refine Sp.step rfl rfl rfl rfl ?_
                      refine Sp.step rfl rfl rfl rfl ?_
                      refine Sp.step rfl rfl rfl rfl ?_
                      refine Sp.step rfl rfl rfl (xp_I (c := 8) (f := 2) rfl rfl rfl rfl rfl) ?_
                      exact Sp.iret rfl rfl rfl rfl (fun _ _ h => h)
                    · refine Sp.id (pc := 127) (l := [some (.ref 1), some (.int x), some (.int y), some (.int z), some (.int u), some (.int v), some (.int t), some (.int 1), some (.int (z + 1)), none]) (st := [.int 0]) (h := hS X M) ?_
                      refine Sp.step rfl rfl rfl rfl ?_
                      refine Sp.step rfl rfl rfl rfl ?_
                      exact Sp.iret rfl rfl rfl rfl (fun _ _ h => h)
                · refine Sp.id (pc := 104) (l := [some (.ref 1), some (.int x), some (.int y), some (.int z), some (.int u), some (.int v), some (.int t), some (.int 1), some (.int (z + 1)), none]) (st := [.int 0]) (h := hS X M) ?_
                  refine Sp.step rfl rfl rfl rfl ?_
                  refine Sp.step rfl rfl rfl rfl ?_
                  exact Sp.iret rfl rfl rfl rfl (fun _ _ h => h)
              · refine Sp.id (pc := 75) (l := [some (.ref 1), some (.int x), some (.int y), some (.int z), some (.int u), some (.int v), some (.int t), some (.int 1), none, none]) (st := [.int 0]) (h := hS X M) ?_
                refine Sp.step rfl rfl rfl rfl ?_
                refine Sp.step rfl rfl rfl rfl ?_
                exact Sp.iret rfl rfl rfl rfl (fun _ _ h => h)
          · refine Sp.id (pc := 40) (l := [some (.ref 1), some (.int x), some (.int y), some (.int z), some (.int u), some (.int v), some (.int t), none, none, none]) (st := [.int 0]) (h := hS X M) ?_
            refine Sp.step rfl rfl rfl rfl ?_
            refine Sp.step rfl rfl rfl rfl ?_
            refine Sp.step rfl rfl rfl rfl ?_
            refine Sp.step rfl rfl rfl rfl ?_
            refine Sp.step rfl rfl rfl rfl ?_
            refine Sp.step rfl rfl rfl rfl ?_
            exact Sp.iret rfl rfl rfl rfl (fun _ _ h => h)
        · refine Sp.id (pc := 30) (l := [some (.ref 1), some (.int x), some (.int y), some (.int z), some (.int u), some (.int v), some (.int t), none, none, none]) (st := [.int 0]) (h := hS X M) ?_
          refine Sp.step rfl rfl rfl rfl ?_
          refine Sp.step rfl rfl rfl rfl ?_
          refine Sp.step rfl rfl rfl rfl ?_
          refine Sp.step rfl rfl rfl rfl ?_
          refine Sp.step rfl rfl rfl rfl ?_
          refine Sp.step rfl rfl rfl rfl ?_
          exact Sp.iret rfl rfl rfl rfl (fun _ _ h => h)
      · refine Sp.id (pc := 21) (l := [some (.ref 1), some (.int x), some (.int y), some (.int z), some (.int u), some (.int v), some (.int t), none, none, none]) (st := [.int 0]) (h := hS X M) ?_
        refine Sp.step rfl rfl rfl rfl ?_
        refine Sp.step rfl rfl rfl rfl ?_
        refine Sp.step rfl rfl rfl rfl ?_
        refine Sp.step rfl rfl rfl rfl ?_
        refine Sp.step rfl rfl rfl rfl ?_
        refine Sp.step rfl rfl rfl rfl ?_
        exact Sp.iret rfl rfl rfl rfl (fun _ _ h => h)
  · refine Sp.id (pc := 5) (l := [some (.ref 1), some (.int x), some (.int y), some (.int z), some (.int u), some (.int v), some (.int t), none, none, none]) (st := [.int 0]) (h := hS X M) ?_
    refine Sp.step rfl rfl rfl rfl ?_
    refine Sp.step rfl rfl rfl rfl ?_
    refine Sp.step rfl rfl rfl rfl ?_
    refine Sp.step rfl rfl rfl rfl ?_
    refine Sp.step rfl rfl rfl rfl ?_
    refine Sp.step rfl rfl rfl rfl ?_
    exact Sp.iret rfl rfl rfl rfl (fun _ _ h => h)
def f_P_method (x : Int32) (y : Int32) (z : Int32) (u : Int32) (v : Int32) (t : Int32) (X : XS) : Option (Int32 × XS) := ((f_Source_addRoutine x y z u v t X).bind fun x1 => some (x1.1, x1.2))
set_option maxRecDepth 100000 in
set_option maxHeartbeats 4000000 in
theorem s_P_method {L : Nat} {xs : Nat → Int32} {X : XS} {M : MS} {x : Int32} {y : Int32} {z : Int32} {u : Int32} {v : Int32} {t : Int32} : Sp (mjOO L xs) 2 0 [some (.ref 0), some (.int x), some (.int y), some (.int z), some (.int u), some (.int v), some (.int t)] [] (hS X M) (f_P_method x y z u v t X) (KEX M) := by
  unfold f_P_method
  refine Sp.step rfl rfl rfl rfl ?_
  refine Sp.step rfl rfl rfl (xg_F (c := 11) (f := 0) rfl rfl rfl rfl rfl) ?_
  refine Sp.step rfl rfl rfl rfl ?_
  refine Sp.step rfl rfl rfl rfl ?_
  refine Sp.step rfl rfl rfl rfl ?_
  refine Sp.step rfl rfl rfl rfl ?_
  refine Sp.step rfl rfl rfl rfl ?_
  refine Sp.step rfl rfl rfl rfl ?_
  refine Sp.call rfl rfl rfl (xrecv (c := 8) (by decide) rfl (by decide +kernel)) s_Source_addRoutine (fun x1 => ⟨_, _, ⟨rfl, rfl⟩, ?_⟩)
  refine Sp.id (pc := 16) (l := [some (.ref 0), some (.int x), some (.int y), some (.int z), some (.int u), some (.int v), some (.int t)]) (st := [.int x1.1]) (h := hS x1.2 M) ?_
  exact Sp.iret rfl rfl rfl rfl (fun _ _ h => h)
def f_Source_addInstruction (x : Int32) (y : Int32) (X : XS) : Option (Int32 × XS) := (if f_Source_isRoutine ((X.1 1 2) - 1) X = true then (if 0 ≤ x ∧ x ≤ 55 then (ocz (X.2.1 2 ((X.1 1 2) - 1).toNatClampNeg) none (fun a5 => (if (xT X a5 = some (12, 0)) then (if X.1 a5 6 < 60 then (ocz (X.2.1 2 ((X.1 1 2) - 1).toNatClampNeg) none (fun a9 => (if (xT X a9 = some (12, 0)) then (ocz (X.2.1 a9 7) none (fun a12 => (ocz (xL X 0 a12) none (fun n14 => (if ixo (X.1 a9 6) n14 then (lt (xw X a12 (X.1 a9 6).toNatClampNeg x) fun X17 => (ocz (X17.2.1 a9 8) none (fun a18 => (ocz (xL X17 0 a18) none (fun n20 => (if ixo (X17.1 a9 6) n20 then (lt (xw X17 a18 (X17.1 a9 6).toNatClampNeg y) fun X23 => (lt (xw X23 a9 6 ((X23.1 a9 6) + 1)) fun X24 => some (X23.1 a9 6, X24))) else none)))))) else none))))) else none))) else some ((-1), X)) else none))) else some ((-1), X)) else some ((-1), X))
set_option maxRecDepth 100000 in
set_option maxHeartbeats 4000000 in
theorem s_Source_addInstruction {L : Nat} {xs : Nat → Int32} {X : XS} {M : MS} {x : Int32} {y : Int32} : Sp (mjOO L xs) 272 0 [some (.ref 1), some (.int x), some (.int y), none, none] [] (hS X M) (f_Source_addInstruction x y X) (KEX M) := by
  unfold f_Source_addInstruction
  refine Sp.step rfl rfl rfl rfl ?_
  refine Sp.step rfl rfl rfl (xg_I (c := 8) (f := 2) rfl rfl rfl rfl) ?_
  refine Sp.step rfl rfl rfl rfl ?_
  refine Sp.step rfl rfl rfl rfl ?_
  refine Sp.step rfl rfl rfl rfl ?_
  refine Sp.step rfl rfl rfl rfl ?_
  refine Sp.step rfl rfl rfl rfl ?_
  refine Sp.callS rfl rfl rfl (xrecv (c := 8) (by decide) rfl (by decide +kernel)) s_Source_isRoutine ⟨rfl, rfl⟩ ?_
  refine Sp.bool (fun e1 => ?_) (fun e1 => ?_)
  · refine Sp.id (pc := 12) (l := [some (.ref 1), some (.int x), some (.int y), some (.int ((X.1 1 2) - 1)), none]) (st := [.int 1]) (h := hS X M) ?_
    refine Sp.step rfl rfl rfl rfl ?_
    refine Sp.step rfl rfl rfl rfl ?_
    refine Sp.step rfl rfl rfl rfl ?_
    refine Sp.step rfl rfl rfl rfl ?_
    refine Sp.callP rfl rfl rfl rfl s_within (fun e3 => ?_) (fun e3 => ?_)
    · refine Sp.id (pc := 22) (l := [some (.ref 1), some (.int x), some (.int y), some (.int ((X.1 1 2) - 1)), none]) (st := [.int 1]) (h := hS X M) ?_
      refine Sp.step rfl rfl rfl rfl ?_
      refine Sp.step rfl rfl rfl rfl ?_
      refine Sp.step rfl rfl rfl (xg_F (c := 8) (f := 0) rfl rfl rfl rfl rfl) ?_
      refine Sp.step rfl rfl rfl rfl ?_
      refine Sp.step rfl rfl rfl (xald (t := 3) rfl (by decide) (fun _ => rfl) (isRoutine_ix e1)) ?_
      refine Sp.ocrn (fun a5 e6 => ?_)
      refine Sp.guard (fun e7 => ?_)
      refine Sp.step rfl rfl rfl (xg_I (c := 7) (f := 6) rfl rfl e7 rfl) ?_
      refine Sp.step rfl rfl rfl rfl ?_
      refine Sp.if2 rfl rfl rfl rfl (fun e8 => ?_) (fun e8 => ?_)
      · refine Sp.step rfl rfl rfl rfl ?_
        refine Sp.step rfl rfl rfl (xg_F (c := 8) (f := 0) rfl rfl rfl rfl rfl) ?_
        refine Sp.step rfl rfl rfl rfl ?_
        refine Sp.step rfl rfl rfl (xald (t := 3) rfl (by decide) (fun _ => rfl) (isRoutine_ix e1)) ?_
        refine Sp.ocrn (fun a9 e10 => ?_)
        refine Sp.step rfl rfl rfl rfl ?_
        refine Sp.step rfl rfl rfl rfl ?_
        refine Sp.guard (fun e11 => ?_)
        refine Sp.step rfl rfl rfl (xg_D (c := 7) (f := 7) rfl rfl e11 rfl (fxP_big (dyn_of (c := 7) e11 rfl))) ?_
        refine Sp.ocrn (fun a12 e13 => ?_)
        refine Sp.step rfl rfl rfl rfl ?_
        refine Sp.step rfl rfl rfl (xg_I (c := 7) (f := 6) rfl rfl e11 rfl) ?_
        refine Sp.step rfl rfl rfl rfl ?_
        refine Sp.ocn (fun n14 e15 => ?_)
        refine Sp.guard (fun e16 => ?_)
        refine Sp.step rfl rfl rfl (xst (xL_ok e15) (by decide) e16) ?_
        refine Sp.step rfl rfl rfl rfl ?_
        refine Sp.step rfl rfl rfl (xg_D (c := 7) (f := 8) rfl rfl e11 rfl (fxP_big (dyn_of (c := 7) e11 rfl))) ?_
        refine Sp.ocrn (fun a18 e19 => ?_)
        refine Sp.step rfl rfl rfl rfl ?_
        refine Sp.step rfl rfl rfl (xg_I (c := 7) (f := 6) rfl rfl e11 rfl) ?_
        refine Sp.step rfl rfl rfl rfl ?_
        refine Sp.ocn (fun n20 e21 => ?_)
        refine Sp.guard (fun e22 => ?_)
        refine Sp.step rfl rfl rfl (xst (xL_ok e21) (by decide) e22) ?_
        refine Sp.step rfl rfl rfl rfl ?_
        refine Sp.step rfl rfl rfl rfl ?_
        refine Sp.step rfl rfl rfl (xg_I (c := 7) (f := 6) rfl rfl e11 rfl) ?_
        refine Sp.step rfl rfl rfl rfl ?_
        refine Sp.step rfl rfl rfl rfl ?_
        refine Sp.step rfl rfl rfl rfl ?_
        refine Sp.step rfl rfl rfl (xp_I (c := 7) (f := 6) rfl rfl e11 rfl rfl) ?_
        exact Sp.iret rfl rfl rfl rfl (fun _ _ h => h)
      · refine Sp.step rfl rfl rfl rfl ?_
        exact Sp.iret rfl rfl rfl rfl (fun _ _ h => h)
    · refine Sp.id (pc := 22) (l := [some (.ref 1), some (.int x), some (.int y), some (.int ((X.1 1 2) - 1)), none]) (st := [.int 0]) (h := hS X M) ?_
      refine Sp.step rfl rfl rfl rfl ?_
      refine Sp.step rfl rfl rfl rfl ?_
      exact Sp.iret rfl rfl rfl rfl (fun _ _ h => h)
  · refine Sp.id (pc := 12) (l := [some (.ref 1), some (.int x), some (.int y), some (.int ((X.1 1 2) - 1)), none]) (st := [.int 0]) (h := hS X M) ?_
    refine Sp.step rfl rfl rfl rfl ?_
    refine Sp.step rfl rfl rfl rfl ?_
    exact Sp.iret rfl rfl rfl rfl (fun _ _ h => h)
def f_P_code (x : Int32) (y : Int32) (X : XS) : Option (Int32 × XS) := ((f_Source_addInstruction x y X).bind fun x1 => some (x1.1, x1.2))
set_option maxRecDepth 100000 in
set_option maxHeartbeats 4000000 in
theorem s_P_code {L : Nat} {xs : Nat → Int32} {X : XS} {M : MS} {x : Int32} {y : Int32} : Sp (mjOO L xs) 3 0 [some (.ref 0), some (.int x), some (.int y)] [] (hS X M) (f_P_code x y X) (KEX M) := by
  unfold f_P_code
  refine Sp.step rfl rfl rfl rfl ?_
  refine Sp.step rfl rfl rfl (xg_F (c := 11) (f := 0) rfl rfl rfl rfl rfl) ?_
  refine Sp.step rfl rfl rfl rfl ?_
  refine Sp.step rfl rfl rfl rfl ?_
  refine Sp.call rfl rfl rfl (xrecv (c := 8) (by decide) rfl (by decide +kernel)) s_Source_addInstruction (fun x1 => ⟨_, _, ⟨rfl, rfl⟩, ?_⟩)
  refine Sp.id (pc := 9) (l := [some (.ref 0), some (.int x), some (.int y)]) (st := [.int x1.1]) (h := hS x1.2 M) ?_
  exact Sp.iret rfl rfl rfl rfl (fun _ _ h => h)
def f_Source_addTrap (x : Int32) (y : Int32) (z : Int32) (u : Int32) (X : XS) : Option (Int32 × XS) := (if f_Source_isRoutine ((X.1 1 2) - 1) X = true then (ocz (X.2.1 2 ((X.1 1 2) - 1).toNatClampNeg) none (fun a3 => (if (xT X a3 = some (12, 0)) then (if X.1 a3 9 < 6 then (ocz (X.2.1 2 ((X.1 1 2) - 1).toNatClampNeg) none (fun a7 => (if (xT X a7 = some (12, 0)) then (ocz (X.2.1 a7 10) none (fun a10 => (ocz (xL X 0 a10) none (fun n12 => (if ixo (X.1 a7 9) n12 then (lt (xw X a10 (X.1 a7 9).toNatClampNeg x) fun X15 => (ocz (X15.2.1 a7 11) none (fun a16 => (ocz (xL X15 0 a16) none (fun n18 => (if ixo (X15.1 a7 9) n18 then (lt (xw X15 a16 (X15.1 a7 9).toNatClampNeg y) fun X21 => (ocz (X21.2.1 a7 12) none (fun a22 => (ocz (xL X21 0 a22) none (fun n24 => (if ixo (X21.1 a7 9) n24 then (lt (xw X21 a22 (X21.1 a7 9).toNatClampNeg z) fun X27 => (ocz (X27.2.1 a7 13) none (fun a28 => (ocz (xL X27 0 a28) none (fun n30 => (if ixo (X27.1 a7 9) n30 then (lt (xw X27 a28 (X27.1 a7 9).toNatClampNeg u) fun X33 => (lt (xw X33 a7 9 ((X33.1 a7 9) + 1)) fun X34 => some (X34.1 a7 9, X34))) else none)))))) else none)))))) else none)))))) else none))))) else none))) else some ((-1), X)) else none))) else some ((-1), X))
set_option maxRecDepth 100000 in
set_option maxHeartbeats 4000000 in
theorem s_Source_addTrap {L : Nat} {xs : Nat → Int32} {X : XS} {M : MS} {x : Int32} {y : Int32} {z : Int32} {u : Int32} : Sp (mjOO L xs) 273 0 [some (.ref 1), some (.int x), some (.int y), some (.int z), some (.int u), none, none] [] (hS X M) (f_Source_addTrap x y z u X) (KEX M) := by
  unfold f_Source_addTrap
  refine Sp.step rfl rfl rfl rfl ?_
  refine Sp.step rfl rfl rfl (xg_I (c := 8) (f := 2) rfl rfl rfl rfl) ?_
  refine Sp.step rfl rfl rfl rfl ?_
  refine Sp.step rfl rfl rfl rfl ?_
  refine Sp.step rfl rfl rfl rfl ?_
  refine Sp.step rfl rfl rfl rfl ?_
  refine Sp.step rfl rfl rfl rfl ?_
  refine Sp.callS rfl rfl rfl (xrecv (c := 8) (by decide) rfl (by decide +kernel)) s_Source_isRoutine ⟨rfl, rfl⟩ ?_
  refine Sp.bool (fun e1 => ?_) (fun e1 => ?_)
  · refine Sp.id (pc := 14) (l := [some (.ref 1), some (.int x), some (.int y), some (.int z), some (.int u), some (.int ((X.1 1 2) - 1)), none]) (st := [.int 1]) (h := hS X M) ?_
    refine Sp.step rfl rfl rfl rfl ?_
    refine Sp.step rfl rfl rfl rfl ?_
    refine Sp.step rfl rfl rfl (xg_F (c := 8) (f := 0) rfl rfl rfl rfl rfl) ?_
    refine Sp.step rfl rfl rfl rfl ?_
    refine Sp.step rfl rfl rfl (xald (t := 3) rfl (by decide) (fun _ => rfl) (isRoutine_ix e1)) ?_
    refine Sp.ocrn (fun a3 e4 => ?_)
    refine Sp.guard (fun e5 => ?_)
    refine Sp.step rfl rfl rfl (xg_I (c := 7) (f := 9) rfl rfl e5 rfl) ?_
    refine Sp.step rfl rfl rfl rfl ?_
    refine Sp.if2 rfl rfl rfl rfl (fun e6 => ?_) (fun e6 => ?_)
    · refine Sp.step rfl rfl rfl rfl ?_
      refine Sp.step rfl rfl rfl (xg_F (c := 8) (f := 0) rfl rfl rfl rfl rfl) ?_
      refine Sp.step rfl rfl rfl rfl ?_
      refine Sp.step rfl rfl rfl (xald (t := 3) rfl (by decide) (fun _ => rfl) (isRoutine_ix e1)) ?_
      refine Sp.ocrn (fun a7 e8 => ?_)
      refine Sp.step rfl rfl rfl rfl ?_
      refine Sp.step rfl rfl rfl rfl ?_
      refine Sp.guard (fun e9 => ?_)
      refine Sp.step rfl rfl rfl (xg_D (c := 7) (f := 10) rfl rfl e9 rfl (fxP_big (dyn_of (c := 7) e9 rfl))) ?_
      refine Sp.ocrn (fun a10 e11 => ?_)
      refine Sp.step rfl rfl rfl rfl ?_
      refine Sp.step rfl rfl rfl (xg_I (c := 7) (f := 9) rfl rfl e9 rfl) ?_
      refine Sp.step rfl rfl rfl rfl ?_
      refine Sp.ocn (fun n12 e13 => ?_)
      refine Sp.guard (fun e14 => ?_)
      refine Sp.step rfl rfl rfl (xst (xL_ok e13) (by decide) e14) ?_
      refine Sp.step rfl rfl rfl rfl ?_
      refine Sp.step rfl rfl rfl (xg_D (c := 7) (f := 11) rfl rfl e9 rfl (fxP_big (dyn_of (c := 7) e9 rfl))) ?_
      refine Sp.ocrn (fun a16 e17 => ?_)
      refine Sp.step rfl rfl rfl rfl ?_
      refine Sp.step rfl rfl rfl (xg_I (c := 7) (f := 9) rfl rfl e9 rfl) ?_
      refine Sp.step rfl rfl rfl rfl ?_
      refine Sp.ocn (fun n18 e19 => ?_)
      refine Sp.guard (fun e20 => ?_)
      refine Sp.step rfl rfl rfl (xst (xL_ok e19) (by decide) e20) ?_
      refine Sp.step rfl rfl rfl rfl ?_
      refine Sp.step rfl rfl rfl (xg_D (c := 7) (f := 12) rfl rfl e9 rfl (fxP_big (dyn_of (c := 7) e9 rfl))) ?_
      refine Sp.ocrn (fun a22 e23 => ?_)
      refine Sp.step rfl rfl rfl rfl ?_
      refine Sp.step rfl rfl rfl (xg_I (c := 7) (f := 9) rfl rfl e9 rfl) ?_
      refine Sp.step rfl rfl rfl rfl ?_
      refine Sp.ocn (fun n24 e25 => ?_)
      refine Sp.guard (fun e26 => ?_)
      refine Sp.step rfl rfl rfl (xst (xL_ok e25) (by decide) e26) ?_
      refine Sp.step rfl rfl rfl rfl ?_
      refine Sp.step rfl rfl rfl (xg_D (c := 7) (f := 13) rfl rfl e9 rfl (fxP_big (dyn_of (c := 7) e9 rfl))) ?_
      refine Sp.ocrn (fun a28 e29 => ?_)
      refine Sp.step rfl rfl rfl rfl ?_
      refine Sp.step rfl rfl rfl (xg_I (c := 7) (f := 9) rfl rfl e9 rfl) ?_
      refine Sp.step rfl rfl rfl rfl ?_
      refine Sp.ocn (fun n30 e31 => ?_)
      refine Sp.guard (fun e32 => ?_)
      refine Sp.step rfl rfl rfl (xst (xL_ok e31) (by decide) e32) ?_
      refine Sp.step rfl rfl rfl rfl ?_
      refine Sp.step rfl rfl rfl rfl ?_
      refine Sp.step rfl rfl rfl (xg_I (c := 7) (f := 9) rfl rfl e9 rfl) ?_
      refine Sp.step rfl rfl rfl rfl ?_
      refine Sp.step rfl rfl rfl rfl ?_
      refine Sp.step rfl rfl rfl (xp_I (c := 7) (f := 9) rfl rfl e9 rfl rfl) ?_
      refine Sp.step rfl rfl rfl rfl ?_
      refine Sp.step rfl rfl rfl (xg_I (c := 7) (f := 9) rfl rfl e9 rfl) ?_
      exact Sp.iret rfl rfl rfl rfl (fun _ _ h => h)
    · refine Sp.step rfl rfl rfl rfl ?_
      exact Sp.iret rfl rfl rfl rfl (fun _ _ h => h)
  · refine Sp.id (pc := 14) (l := [some (.ref 1), some (.int x), some (.int y), some (.int z), some (.int u), some (.int ((X.1 1 2) - 1)), none]) (st := [.int 0]) (h := hS X M) ?_
    refine Sp.step rfl rfl rfl rfl ?_
    refine Sp.step rfl rfl rfl rfl ?_
    exact Sp.iret rfl rfl rfl rfl (fun _ _ h => h)
def f_P_trap (x : Int32) (y : Int32) (z : Int32) (u : Int32) (X : XS) : Option (Int32 × XS) := ((f_Source_addTrap x y z u X).bind fun x1 => some (x1.1, x1.2))
set_option maxRecDepth 100000 in
set_option maxHeartbeats 4000000 in
theorem s_P_trap {L : Nat} {xs : Nat → Int32} {X : XS} {M : MS} {x : Int32} {y : Int32} {z : Int32} {u : Int32} : Sp (mjOO L xs) 4 0 [some (.ref 0), some (.int x), some (.int y), some (.int z), some (.int u)] [] (hS X M) (f_P_trap x y z u X) (KEX M) := by
  unfold f_P_trap
  refine Sp.step rfl rfl rfl rfl ?_
  refine Sp.step rfl rfl rfl (xg_F (c := 11) (f := 0) rfl rfl rfl rfl rfl) ?_
  refine Sp.step rfl rfl rfl rfl ?_
  refine Sp.step rfl rfl rfl rfl ?_
  refine Sp.step rfl rfl rfl rfl ?_
  refine Sp.step rfl rfl rfl rfl ?_
  refine Sp.call rfl rfl rfl (xrecv (c := 8) (by decide) rfl (by decide +kernel)) s_Source_addTrap (fun x1 => ⟨_, _, ⟨rfl, rfl⟩, ?_⟩)
  refine Sp.id (pc := 12) (l := [some (.ref 0), some (.int x), some (.int y), some (.int z), some (.int u)]) (st := [.int x1.1]) (h := hS x1.2 M) ?_
  exact Sp.iret rfl rfl rfl rfl (fun _ _ h => h)
def f_Routine_isStatic (x : Nat) (X : XS) : Option Bool := (if (xT X x = some (12, 0)) then (if ¬ X.1 x 1 = (-2) then some false else some true) else none)
set_option maxRecDepth 100000 in
set_option maxHeartbeats 4000000 in
theorem s_Routine_isStatic {L : Nat} {xs : Nat → Int32} {X : XS} {M : MS} {x : Nat} : Sp (mjOO L xs) 257 0 [some (.ref x)] [] (hS X M) (f_Routine_isStatic x X) (KB (hS X M)) := by
  unfold f_Routine_isStatic
  refine Sp.step rfl rfl rfl rfl ?_
  refine Sp.guard (fun e1 => ?_)
  refine Sp.step rfl rfl rfl (xg_I (c := 7) (f := 1) rfl rfl e1 rfl) ?_
  refine Sp.step rfl rfl rfl rfl ?_
  refine Sp.if2 rfl rfl rfl rfl (fun e2 => ?_) (fun e2 => ?_)
  · refine Sp.step rfl rfl rfl rfl ?_
    exact Sp.iret rfl rfl rfl rfl (fun _ _ h => h)
  · refine Sp.step rfl rfl rfl rfl ?_
    refine Sp.step rfl rfl rfl rfl ?_
    exact Sp.iret rfl rfl rfl rfl (fun _ _ h => h)
def f_Source_isStaticRoutine (x : Int32) (X : XS) : Option Bool := (if f_Source_isRoutine x X = true then (ocz (X.2.1 2 x.toNatClampNeg) none (fun a3 => (if (xT X a3 = some (12, 0)) then ((f_Routine_isStatic a3 X).bind fun x6 => (if x6 = true then some true else some false)) else none))) else some false)
set_option maxRecDepth 100000 in
set_option maxHeartbeats 4000000 in
theorem s_Source_isStaticRoutine {L : Nat} {xs : Nat → Int32} {X : XS} {M : MS} {x : Int32} : Sp (mjOO L xs) 263 0 [some (.ref 1), some (.int x)] [] (hS X M) (f_Source_isStaticRoutine x X) (KB (hS X M)) := by
  unfold f_Source_isStaticRoutine
  refine Sp.step rfl rfl rfl rfl ?_
  refine Sp.step rfl rfl rfl rfl ?_
  refine Sp.callS rfl rfl rfl (xrecv (c := 8) (by decide) rfl (by decide +kernel)) s_Source_isRoutine ⟨rfl, rfl⟩ ?_
  refine Sp.bool (fun e1 => ?_) (fun e1 => ?_)
  · refine Sp.id (pc := 5) (l := [some (.ref 1), some (.int x)]) (st := [.int 1]) (h := hS X M) ?_
    refine Sp.step rfl rfl rfl rfl ?_
    refine Sp.step rfl rfl rfl rfl ?_
    refine Sp.step rfl rfl rfl (xg_F (c := 8) (f := 0) rfl rfl rfl rfl rfl) ?_
    refine Sp.step rfl rfl rfl rfl ?_
    refine Sp.step rfl rfl rfl (xald (t := 3) rfl (by decide) (fun _ => rfl) (isRoutine_ix e1)) ?_
    refine Sp.ocrn (fun a3 e4 => ?_)
    refine Sp.guard (fun e5 => ?_)
    refine Sp.call rfl rfl rfl (xrecv (c := 7) (by decide) e5 (by decide +kernel)) s_Routine_isStatic (fun x6 => ⟨_, _, ⟨rfl, rfl⟩, ?_⟩)
    refine Sp.bool (fun e7 => ?_) (fun e7 => ?_)
    · refine Sp.id (pc := 17) (l := [some (.ref 1), some (.int x)]) (st := [.int 1]) (h := hS X M) ?_
      refine Sp.step rfl rfl rfl rfl ?_
      refine Sp.step rfl rfl rfl rfl ?_
      refine Sp.step rfl rfl rfl rfl ?_
      exact Sp.iret rfl rfl rfl rfl (fun _ _ h => h)
    · refine Sp.id (pc := 17) (l := [some (.ref 1), some (.int x)]) (st := [.int 0]) (h := hS X M) ?_
      refine Sp.step rfl rfl rfl rfl ?_
      refine Sp.step rfl rfl rfl rfl ?_
      exact Sp.iret rfl rfl rfl rfl (fun _ _ h => h)
  · refine Sp.id (pc := 5) (l := [some (.ref 1), some (.int x)]) (st := [.int 0]) (h := hS X M) ?_
    refine Sp.step rfl rfl rfl rfl ?_
    refine Sp.step rfl rfl rfl rfl ?_
    exact Sp.iret rfl rfl rfl rfl (fun _ _ h => h)
def f_Source_isMain (x : Int32) (X : XS) : Option Bool := ((f_Source_isStaticRoutine x X).bind fun x1 => (if x1 = true then (if ixo x 24 then (ocz (X.2.1 2 x.toNatClampNeg) none (fun a5 => (if (xT X a5 = some (12, 0)) then (if ¬ X.1 a5 2 = 0 then some false else some true) else none))) else none) else some false))
set_option maxRecDepth 100000 in
set_option maxHeartbeats 4000000 in
theorem s_Source_isMain {L : Nat} {xs : Nat → Int32} {X : XS} {M : MS} {x : Int32} : Sp (mjOO L xs) 264 0 [some (.ref 1), some (.int x)] [] (hS X M) (f_Source_isMain x X) (KB (hS X M)) := by
  unfold f_Source_isMain
  refine Sp.step rfl rfl rfl rfl ?_
  refine Sp.step rfl rfl rfl rfl ?_
  refine Sp.call rfl rfl rfl (xrecv (c := 8) (by decide) rfl (by decide +kernel)) s_Source_isStaticRoutine (fun x1 => ⟨_, _, ⟨rfl, rfl⟩, ?_⟩)
  refine Sp.bool (fun e2 => ?_) (fun e2 => ?_)
  · refine Sp.id (pc := 5) (l := [some (.ref 1), some (.int x)]) (st := [.int 1]) (h := hS X M) ?_
    refine Sp.step rfl rfl rfl rfl ?_
    refine Sp.step rfl rfl rfl rfl ?_
    refine Sp.step rfl rfl rfl (xg_F (c := 8) (f := 0) rfl rfl rfl rfl rfl) ?_
    refine Sp.step rfl rfl rfl rfl ?_
    refine Sp.guard (fun e4 => ?_)
    refine Sp.step rfl rfl rfl (xald (t := 3) rfl (by decide) (fun _ => rfl) e4) ?_
    refine Sp.ocrn (fun a5 e6 => ?_)
    refine Sp.guard (fun e7 => ?_)
    refine Sp.step rfl rfl rfl (xg_I (c := 7) (f := 2) rfl rfl e7 rfl) ?_
    refine Sp.if1 rfl rfl rfl rfl (fun e8 => ?_) (fun e8 => ?_)
    · refine Sp.step rfl rfl rfl rfl ?_
      exact Sp.iret rfl rfl rfl rfl (fun _ _ h => h)
    · refine Sp.step rfl rfl rfl rfl ?_
      refine Sp.step rfl rfl rfl rfl ?_
      exact Sp.iret rfl rfl rfl rfl (fun _ _ h => h)
  · refine Sp.id (pc := 5) (l := [some (.ref 1), some (.int x)]) (st := [.int 0]) (h := hS X M) ?_
    refine Sp.step rfl rfl rfl rfl ?_
    refine Sp.step rfl rfl rfl rfl ?_
    exact Sp.iret rfl rfl rfl rfl (fun _ _ h => h)
def b2_Reach_clear (x6 : (Int32 × XS)) : Option ((Int32 × XS) ⊕ (Int32 × XS)) := (if 10 ≤ x6.1 then some (.inr (x6.1, x6.2)) else (if ixo x6.1 10 then (lt (xw x6.2 15 x6.1.toNatClampNeg 0) fun X9 => (lt (xw X9 16 x6.1.toNatClampNeg 0) fun X10 => some (.inl (x6.1 + 1, X10)))) else none))
def b30_Reach_clear (x17 : (Int32 × XS)) : Option ((Int32 × XS) ⊕ (Int32 × XS)) := (if 24 ≤ x17.1 then some (.inr (x17.1, x17.2)) else (if ixo x17.1 24 then (lt (xw x17.2 17 x17.1.toNatClampNeg 0) fun X20 => (lt (xw X20 18 x17.1.toNatClampNeg 0) fun X21 => some (.inl (x17.1 + 1, X21)))) else none))
def b58_Reach_clear (x27 : (Int32 × XS)) : Option ((Int32 × XS) ⊕ (Int32 × XS)) := (if 8 ≤ x27.1 then some (.inr (x27.1, x27.2)) else (if ixo x27.1 8 then (lt (xw x27.2 19 x27.1.toNatClampNeg 0) fun X30 => some (.inl (x27.1 + 1, X30))) else none))
def f_Reach_clear (X : XS) : Option XS := ((lp (b2_Reach_clear) 10000 ((0 : Int32), X)).bind fun x11 => ((lp (b30_Reach_clear) 10000 ((0 : Int32), x11.2)).bind fun x22 => ((lp (b58_Reach_clear) 10000 ((0 : Int32), x22.2)).bind fun x31 => some x31.2)))
set_option maxRecDepth 100000 in
set_option maxHeartbeats 4000000 in
theorem s_Reach_clear {L : Nat} {xs : Nat → Int32} {X : XS} {M : MS} : Sp (mjOO L xs) 246 0 [some (.ref 14), none] [] (hS X M) (f_Reach_clear X) (KVX M) := by
  unfold f_Reach_clear
  refine Sp.step rfl rfl rfl rfl ?_
  refine Sp.step rfl rfl rfl rfl ?_
  refine Sp.weak (l0 := [some (.ref 14), some (.int 0)]) ⟨rfl, rfl, trivial⟩ ?_
  refine Sp.loopX (pe := 28) (mf := (fun (x6 : (Int32 × XS)) => [some (.ref 14), some (.int x6.1)])) (hf := (fun (x6 : (Int32 × XS)) => hS x6.2 M)) (fun x6 => ?_) (fun x11 => ?_) _ _
  · unfold b2_Reach_clear
    refine Sp.step rfl rfl rfl rfl ?_
    refine Sp.step rfl rfl rfl rfl ?_
    refine Sp.if2 rfl rfl rfl rfl (fun e7 => ?_) (fun e7 => ?_)
    · exact Sp.jmp (l0 := [some (.ref 14), some (.int x6.1)]) ⟨rfl, rfl, trivial⟩ (fun _ _ h => h)
    · refine Sp.step rfl rfl rfl rfl ?_
      refine Sp.step rfl rfl rfl (xg_F (c := 6) (f := 3) rfl rfl rfl rfl rfl) ?_
      refine Sp.step rfl rfl rfl rfl ?_
      refine Sp.step rfl rfl rfl rfl ?_
      refine Sp.guard (fun e8 => ?_)
      refine Sp.step rfl rfl rfl (xst0 rfl e8) ?_
      refine Sp.step rfl rfl rfl rfl ?_
      refine Sp.step rfl rfl rfl (xg_F (c := 6) (f := 4) rfl rfl rfl rfl rfl) ?_
      refine Sp.step rfl rfl rfl rfl ?_
      refine Sp.step rfl rfl rfl rfl ?_
      refine Sp.step rfl rfl rfl (xst0 rfl e8) ?_
      refine Sp.step rfl rfl rfl rfl ?_
      refine Sp.step rfl rfl rfl rfl ?_
      exact Sp.jmp (l0 := [some (.ref 14), some (.int (x6.1 + 1))]) ⟨rfl, rfl, trivial⟩ (fun _ _ h => h)
  · refine Sp.step rfl rfl rfl rfl ?_
    refine Sp.step rfl rfl rfl rfl ?_
    refine Sp.weak (l0 := [some (.ref 14), some (.int 0)]) ⟨rfl, rfl, trivial⟩ ?_
    refine Sp.loopX (pe := 56) (mf := (fun (x17 : (Int32 × XS)) => [some (.ref 14), some (.int x17.1)])) (hf := (fun (x17 : (Int32 × XS)) => hS x17.2 M)) (fun x17 => ?_) (fun x22 => ?_) _ _
    · unfold b30_Reach_clear
      refine Sp.step rfl rfl rfl rfl ?_
      refine Sp.step rfl rfl rfl rfl ?_
      refine Sp.if2 rfl rfl rfl rfl (fun e18 => ?_) (fun e18 => ?_)
      · exact Sp.jmp (l0 := [some (.ref 14), some (.int x17.1)]) ⟨rfl, rfl, trivial⟩ (fun _ _ h => h)
      · refine Sp.step rfl rfl rfl rfl ?_
        refine Sp.step rfl rfl rfl (xg_F (c := 6) (f := 5) rfl rfl rfl rfl rfl) ?_
        refine Sp.step rfl rfl rfl rfl ?_
        refine Sp.step rfl rfl rfl rfl ?_
        refine Sp.guard (fun e19 => ?_)
        refine Sp.step rfl rfl rfl (xst0 rfl e19) ?_
        refine Sp.step rfl rfl rfl rfl ?_
        refine Sp.step rfl rfl rfl (xg_F (c := 6) (f := 6) rfl rfl rfl rfl rfl) ?_
        refine Sp.step rfl rfl rfl rfl ?_
        refine Sp.step rfl rfl rfl rfl ?_
        refine Sp.step rfl rfl rfl (xst0 rfl e19) ?_
        refine Sp.step rfl rfl rfl rfl ?_
        refine Sp.step rfl rfl rfl rfl ?_
        exact Sp.jmp (l0 := [some (.ref 14), some (.int (x17.1 + 1))]) ⟨rfl, rfl, trivial⟩ (fun _ _ h => h)
    · refine Sp.step rfl rfl rfl rfl ?_
      refine Sp.step rfl rfl rfl rfl ?_
      refine Sp.weak (l0 := [some (.ref 14), some (.int 0)]) ⟨rfl, rfl, trivial⟩ ?_
      refine Sp.loopX (pe := 77) (mf := (fun (x27 : (Int32 × XS)) => [some (.ref 14), some (.int x27.1)])) (hf := (fun (x27 : (Int32 × XS)) => hS x27.2 M)) (fun x27 => ?_) (fun x31 => ?_) _ _
      · unfold b58_Reach_clear
        refine Sp.step rfl rfl rfl rfl ?_
        refine Sp.step rfl rfl rfl rfl ?_
        refine Sp.if2 rfl rfl rfl rfl (fun e28 => ?_) (fun e28 => ?_)
        · exact Sp.jmp (l0 := [some (.ref 14), some (.int x27.1)]) ⟨rfl, rfl, trivial⟩ (fun _ _ h => h)
        · refine Sp.step rfl rfl rfl rfl ?_
          refine Sp.step rfl rfl rfl (xg_F (c := 6) (f := 7) rfl rfl rfl rfl rfl) ?_
          refine Sp.step rfl rfl rfl rfl ?_
          refine Sp.step rfl rfl rfl rfl ?_
          refine Sp.guard (fun e29 => ?_)
          refine Sp.step rfl rfl rfl (xst0 rfl e29) ?_
          refine Sp.step rfl rfl rfl rfl ?_
          refine Sp.step rfl rfl rfl rfl ?_
          exact Sp.jmp (l0 := [some (.ref 14), some (.int (x27.1 + 1))]) ⟨rfl, rfl, trivial⟩ (fun _ _ h => h)
      · exact Sp.vret rfl rfl rfl (fun _ _ h => h)
def f_Reach_addRoutine (x : Int32) (X : XS) : Option XS := (if f_Source_isRoutine x X = true then (lt (xw X 17 x.toNatClampNeg 1) fun X3 => some X3) else some X)
set_option maxRecDepth 100000 in
set_option maxHeartbeats 4000000 in
theorem s_Reach_addRoutine {L : Nat} {xs : Nat → Int32} {X : XS} {M : MS} {x : Int32} : Sp (mjOO L xs) 247 0 [some (.ref 14), some (.int x)] [] (hS X M) (f_Reach_addRoutine x X) (KVX M) := by
  unfold f_Reach_addRoutine
  refine Sp.step rfl rfl rfl rfl ?_
  refine Sp.step rfl rfl rfl (xg_F (c := 6) (f := 2) rfl rfl rfl rfl rfl) ?_
  refine Sp.step rfl rfl rfl rfl ?_
  refine Sp.callS rfl rfl rfl (xrecv (c := 8) (by decide) rfl (by decide +kernel)) s_Source_isRoutine ⟨rfl, rfl⟩ ?_
  refine Sp.bool (fun e1 => ?_) (fun e1 => ?_)
  · refine Sp.id (pc := 8) (l := [some (.ref 14), some (.int x)]) (st := [.int 1]) (h := hS X M) ?_
    refine Sp.step rfl rfl rfl rfl ?_
    refine Sp.step rfl rfl rfl rfl ?_
    refine Sp.step rfl rfl rfl (xg_F (c := 6) (f := 5) rfl rfl rfl rfl rfl) ?_
    refine Sp.step rfl rfl rfl rfl ?_
    refine Sp.step rfl rfl rfl rfl ?_
    refine Sp.step rfl rfl rfl (xst1 rfl (isRoutine_ix e1)) ?_
    exact Sp.vret rfl rfl rfl (fun _ _ h => h)
  · refine Sp.id (pc := 8) (l := [some (.ref 14), some (.int x)]) (st := [.int 0]) (h := hS X M) ?_
    refine Sp.step rfl rfl rfl rfl ?_
    exact Sp.vret rfl rfl rfl (fun _ _ h => h)
def f_Reach_hasRoutine (x : Int32) (X : XS) : Bool := (if f_Source_isRoutine x X = true then (if X.1 17 x.toNatClampNeg = 0 then false else true) else false)
set_option maxRecDepth 100000 in
set_option maxHeartbeats 4000000 in
theorem s_Reach_hasRoutine {L : Nat} {xs : Nat → Int32} {X : XS} {M : MS} {x : Int32} : Sp (mjOO L xs) 243 0 [some (.ref 14), some (.int x)] [] (hS X M) (some (f_Reach_hasRoutine x X)) (KB (hS X M)) := by
  unfold f_Reach_hasRoutine
  refine Sp.step rfl rfl rfl rfl ?_
  refine Sp.step rfl rfl rfl (xg_F (c := 6) (f := 2) rfl rfl rfl rfl rfl) ?_
  refine Sp.step rfl rfl rfl rfl ?_
  refine Sp.callS rfl rfl rfl (xrecv (c := 8) (by decide) rfl (by decide +kernel)) s_Source_isRoutine ⟨rfl, rfl⟩ ?_
  refine Sp.boolV (fun e1 => ?_) (fun e1 => ?_)
  · refine Sp.id (pc := 8) (l := [some (.ref 14), some (.int x)]) (st := [.int 1]) (h := hS X M) ?_
    refine Sp.step rfl rfl rfl rfl ?_
    refine Sp.step rfl rfl rfl rfl ?_
    refine Sp.step rfl rfl rfl (xg_F (c := 6) (f := 5) rfl rfl rfl rfl rfl) ?_
    refine Sp.step rfl rfl rfl rfl ?_
    refine Sp.step rfl rfl rfl (xld rfl (by decide) (isRoutine_ix e1)) ?_
    refine Sp.if1V rfl rfl rfl rfl (fun e3 => ?_) (fun e3 => ?_)
    · refine Sp.step rfl rfl rfl rfl ?_
      exact Sp.iret rfl rfl rfl rfl (fun _ _ h => h)
    · refine Sp.step rfl rfl rfl rfl ?_
      refine Sp.step rfl rfl rfl rfl ?_
      exact Sp.iret rfl rfl rfl rfl (fun _ _ h => h)
  · refine Sp.id (pc := 8) (l := [some (.ref 14), some (.int x)]) (st := [.int 0]) (h := hS X M) ?_
    refine Sp.step rfl rfl rfl rfl ?_
    refine Sp.step rfl rfl rfl rfl ?_
    exact Sp.iret rfl rfl rfl rfl (fun _ _ h => h)
theorem hasRoutine_ix {x : Int32} {X : XS} (h : f_Reach_hasRoutine x X = true) : ixo x 24 := by
  unfold f_Reach_hasRoutine at h
  split at h
  · rename_i c
    exact isRoutine_ix c
  · cases h
def f_Reach_addKind (x : Int32) (X : XS) : Option XS := (if f_Source_isKind x X = true then (lt (xw X 15 x.toNatClampNeg 1) fun X3 => some X3) else some X)
set_option maxRecDepth 100000 in
set_option maxHeartbeats 4000000 in
theorem s_Reach_addKind {L : Nat} {xs : Nat → Int32} {X : XS} {M : MS} {x : Int32} : Sp (mjOO L xs) 248 0 [some (.ref 14), some (.int x)] [] (hS X M) (f_Reach_addKind x X) (KVX M) := by
  unfold f_Reach_addKind
  refine Sp.step rfl rfl rfl rfl ?_
  refine Sp.step rfl rfl rfl (xg_F (c := 6) (f := 2) rfl rfl rfl rfl rfl) ?_
  refine Sp.step rfl rfl rfl rfl ?_
  refine Sp.callS rfl rfl rfl (xrecv (c := 8) (by decide) rfl (by decide +kernel)) s_Source_isKind ⟨rfl, rfl⟩ ?_
  refine Sp.bool (fun e1 => ?_) (fun e1 => ?_)
  · refine Sp.id (pc := 8) (l := [some (.ref 14), some (.int x)]) (st := [.int 1]) (h := hS X M) ?_
    refine Sp.step rfl rfl rfl rfl ?_
    refine Sp.step rfl rfl rfl rfl ?_
    refine Sp.step rfl rfl rfl (xg_F (c := 6) (f := 3) rfl rfl rfl rfl rfl) ?_
    refine Sp.step rfl rfl rfl rfl ?_
    refine Sp.step rfl rfl rfl rfl ?_
    refine Sp.step rfl rfl rfl (xst1 rfl (isKind_ix e1)) ?_
    exact Sp.vret rfl rfl rfl (fun _ _ h => h)
  · refine Sp.id (pc := 8) (l := [some (.ref 14), some (.int x)]) (st := [.int 0]) (h := hS X M) ?_
    refine Sp.step rfl rfl rfl rfl ?_
    exact Sp.vret rfl rfl rfl (fun _ _ h => h)
def f_P_usesField (x : Int32) : Bool := (if 27 ≤ x ∧ x ≤ 30 then true else false)
set_option maxRecDepth 100000 in
set_option maxHeartbeats 4000000 in
theorem s_P_usesField {L : Nat} {xs : Nat → Int32} {X : XS} {M : MS} {x : Int32} : Sp (mjOO L xs) 19 0 [some (.int x)] [] (hS X M) (some (f_P_usesField x)) (KB (hS X M)) := by
  unfold f_P_usesField
  refine Sp.step rfl rfl rfl rfl ?_
  refine Sp.step rfl rfl rfl rfl ?_
  refine Sp.step rfl rfl rfl rfl ?_
  refine Sp.callPV rfl rfl rfl rfl s_within (fun e1 => ?_) (fun e1 => ?_)
  · refine Sp.id (pc := 8) (l := [some (.int x)]) (st := [.int 1]) (h := hS X M) ?_
    exact Sp.iret rfl rfl rfl rfl (fun _ _ h => h)
  · refine Sp.id (pc := 8) (l := [some (.int x)]) (st := [.int 0]) (h := hS X M) ?_
    exact Sp.iret rfl rfl rfl rfl (fun _ _ h => h)
def f_Source_fieldKind (x : Int32) (X : XS) : Int32 := (if x < 0 then (-1) else (if f_Source_isKind (x / 8) X = true then x / 8 else (-1)))
set_option maxRecDepth 100000 in
set_option maxHeartbeats 4000000 in
theorem s_Source_fieldKind {L : Nat} {xs : Nat → Int32} {X : XS} {M : MS} {x : Int32} : Sp (mjOO L xs) 278 0 [some (.ref 1), some (.int x)] [] (hS X M) (some (f_Source_fieldKind x X)) (KQ (hS X M)) := by
  unfold f_Source_fieldKind
  refine Sp.step rfl rfl rfl rfl ?_
  refine Sp.if1V rfl rfl rfl rfl (fun e1 => ?_) (fun e1 => ?_)
  · refine Sp.step rfl rfl rfl rfl ?_
    exact Sp.iret rfl rfl rfl rfl (fun _ _ h => h)
  · refine Sp.step rfl rfl rfl rfl ?_
    refine Sp.step rfl rfl rfl rfl ?_
    refine Sp.step rfl rfl rfl rfl ?_
    refine Sp.step rfl rfl rfl (go_div (by decide)) ?_
    refine Sp.callS rfl rfl rfl (xrecv (c := 8) (by decide) rfl (by decide +kernel)) s_Source_isKind ⟨rfl, rfl⟩ ?_
    refine Sp.boolV (fun e2 => ?_) (fun e2 => ?_)
    · refine Sp.id (pc := 12) (l := [some (.ref 1), some (.int x)]) (st := [.int 1]) (h := hS X M) ?_
      refine Sp.step rfl rfl rfl rfl ?_
      refine Sp.step rfl rfl rfl rfl ?_
      refine Sp.step rfl rfl rfl rfl ?_
      refine Sp.step rfl rfl rfl (go_div (by decide)) ?_
      refine Sp.step rfl rfl rfl rfl ?_
      exact Sp.iret rfl rfl rfl rfl (fun _ _ h => h)
    · refine Sp.id (pc := 12) (l := [some (.ref 1), some (.int x)]) (st := [.int 0]) (h := hS X M) ?_
      refine Sp.step rfl rfl rfl rfl ?_
      refine Sp.step rfl rfl rfl rfl ?_
      exact Sp.iret rfl rfl rfl rfl (fun _ _ h => h)
def f_Reach_scanInstruction (x : Int32) (y : Int32) (X : XS) : Option XS := (((if ¬ x = 26 then some X else (if f_Source_isKind y X = true then (lt (xw X 16 y.toNatClampNeg 1) fun X4 => some X4) else some X)) : Option (XS)).bind fun x6 => (if x = 26 then ((f_Reach_addKind y x6).bind fun x8 => some x8) else (if ¬ x = 44 then (if f_P_usesField x = true then ((f_Reach_addKind (f_Source_fieldKind y x6) x6).bind fun x12 => some x12) else (if ¬ x = 38 then (if ¬ x = 39 then (if ¬ x = 48 then some x6 else (lt (xw x6 19 0 1) fun X17 => some X17)) else (if 0 ≤ y ∧ y ≤ 7 then (lt (xw x6 19 y.toNatClampNeg 1) fun X20 => some X20) else some x6)) else ((f_Source_isStaticRoutine y x6).bind fun x23 => (if x23 = true then ((f_Reach_addRoutine y x6).bind fun x26 => some x26) else some x6)))) else ((f_Reach_addKind y x6).bind fun x30 => some x30))))
set_option maxRecDepth 100000 in
set_option maxHeartbeats 4000000 in
theorem s_Reach_scanInstruction {L : Nat} {xs : Nat → Int32} {X : XS} {M : MS} {x : Int32} {y : Int32} : Sp (mjOO L xs) 251 0 [some (.ref 14), some (.int x), some (.int y)] [] (hS X M) (f_Reach_scanInstruction x y X) (KVX M) := by
  unfold f_Reach_scanInstruction
  refine Sp.step rfl rfl rfl rfl ?_
  refine Sp.step rfl rfl rfl rfl ?_
  refine Sp.piece (pe := 24) (mf := (fun (x6 : XS) => [some (.ref 14), some (.int x), some (.int y)])) (sf := (fun (x6 : XS) => [])) (hf := (fun (x6 : XS) => hS x6 M)) ?_ (fun x6 => ?_)
  · refine Sp.if2 rfl rfl rfl rfl (fun e1 => ?_) (fun e1 => ?_)
    · exact Sp.jmp (l0 := [some (.ref 14), some (.int x), some (.int y)]) ⟨rfl, rfl, rfl, trivial⟩ (fun _ _ h => h)
    · refine Sp.step rfl rfl rfl rfl ?_
      refine Sp.step rfl rfl rfl (xg_F (c := 6) (f := 2) rfl rfl rfl rfl rfl) ?_
      refine Sp.step rfl rfl rfl rfl ?_
      refine Sp.callS rfl rfl rfl (xrecv (c := 8) (by decide) rfl (by decide +kernel)) s_Source_isKind ⟨rfl, rfl⟩ ?_
      refine Sp.bool (fun e2 => ?_) (fun e2 => ?_)
      · refine Sp.id (pc := 14) (l := [some (.ref 14), some (.int x), some (.int y)]) (st := [.int 1]) (h := hS X M) ?_
        refine Sp.step rfl rfl rfl rfl ?_
        refine Sp.step rfl rfl rfl rfl ?_
        refine Sp.step rfl rfl rfl (xg_F (c := 6) (f := 4) rfl rfl rfl rfl rfl) ?_
        refine Sp.step rfl rfl rfl rfl ?_
        refine Sp.step rfl rfl rfl rfl ?_
        refine Sp.step rfl rfl rfl (xst1 rfl (isKind_ix e2)) ?_
        exact Sp.jmp (l0 := [some (.ref 14), some (.int x), some (.int y)]) ⟨rfl, rfl, rfl, trivial⟩ (fun _ _ h => h)
      · refine Sp.id (pc := 14) (l := [some (.ref 14), some (.int x), some (.int y)]) (st := [.int 0]) (h := hS X M) ?_
        refine Sp.step rfl rfl rfl rfl ?_
        exact Sp.jmp (l0 := [some (.ref 14), some (.int x), some (.int y)]) ⟨rfl, rfl, rfl, trivial⟩ (fun _ _ h => h)
  · refine Sp.step rfl rfl rfl rfl ?_
    refine Sp.step rfl rfl rfl rfl ?_
    refine Sp.if2 rfl rfl rfl rfl (fun e7 => ?_) (fun e7 => ?_)
    · refine Sp.step rfl rfl rfl rfl ?_
      refine Sp.step rfl rfl rfl rfl ?_
      refine Sp.call rfl rfl rfl (xrecv (c := 6) (by decide) rfl (by decide +kernel)) s_Reach_addKind (fun x8 => ⟨_, _, ⟨rfl, rfl⟩, ?_⟩)
      refine Sp.id (pc := 41) (l := [some (.ref 14), some (.int x), some (.int y)]) (st := []) (h := hS x8 M) ?_
      refine Sp.step rfl rfl rfl rfl ?_
      exact Sp.vret rfl rfl rfl (fun _ _ h => h)
    · refine Sp.step rfl rfl rfl rfl ?_
      refine Sp.step rfl rfl rfl rfl ?_
      refine Sp.if2 rfl rfl rfl rfl (fun e9 => ?_) (fun e9 => ?_)
      · refine Sp.step rfl rfl rfl rfl ?_
        refine Sp.callS rfl rfl rfl rfl s_P_usesField ⟨rfl, rfl⟩ ?_
        refine Sp.bool (fun e10 => ?_) (fun e10 => ?_)
        · refine Sp.id (pc := 48) (l := [some (.ref 14), some (.int x), some (.int y)]) (st := [.int 1]) (h := hS x6 M) ?_
          refine Sp.step rfl rfl rfl rfl ?_
          refine Sp.step rfl rfl rfl rfl ?_
          refine Sp.step rfl rfl rfl rfl ?_
          refine Sp.step rfl rfl rfl (xg_F (c := 6) (f := 2) rfl rfl rfl rfl rfl) ?_
          refine Sp.step rfl rfl rfl rfl ?_
          refine Sp.callS rfl rfl rfl (xrecv (c := 8) (by decide) rfl (by decide +kernel)) s_Source_fieldKind ⟨rfl, rfl⟩ ?_
          refine Sp.id (pc := 60) (l := [some (.ref 14), some (.int x), some (.int y)]) (st := [.int (f_Source_fieldKind y x6), .ref 14]) (h := hS x6 M) ?_
          refine Sp.call rfl rfl rfl (xrecv (c := 6) (by decide) rfl (by decide +kernel)) s_Reach_addKind (fun x12 => ⟨_, _, ⟨rfl, rfl⟩, ?_⟩)
          refine Sp.id (pc := 63) (l := [some (.ref 14), some (.int x), some (.int y)]) (st := []) (h := hS x12 M) ?_
          refine Sp.step rfl rfl rfl rfl ?_
          exact Sp.vret rfl rfl rfl (fun _ _ h => h)
        · refine Sp.id (pc := 48) (l := [some (.ref 14), some (.int x), some (.int y)]) (st := [.int 0]) (h := hS x6 M) ?_
          refine Sp.step rfl rfl rfl rfl ?_
          refine Sp.step rfl rfl rfl rfl ?_
          refine Sp.step rfl rfl rfl rfl ?_
          refine Sp.if2 rfl rfl rfl rfl (fun e14 => ?_) (fun e14 => ?_)
          · refine Sp.step rfl rfl rfl rfl ?_
            refine Sp.step rfl rfl rfl rfl ?_
            refine Sp.if2 rfl rfl rfl rfl (fun e15 => ?_) (fun e15 => ?_)
            · refine Sp.step rfl rfl rfl rfl ?_
              refine Sp.step rfl rfl rfl rfl ?_
              refine Sp.if2 rfl rfl rfl rfl (fun e16 => ?_) (fun e16 => ?_)
              · exact Sp.vret rfl rfl rfl (fun _ _ h => h)
              · refine Sp.step rfl rfl rfl rfl ?_
                refine Sp.step rfl rfl rfl (xg_F (c := 6) (f := 7) rfl rfl rfl rfl rfl) ?_
                refine Sp.step rfl rfl rfl rfl ?_
                refine Sp.step rfl rfl rfl rfl ?_
                refine Sp.step rfl rfl rfl (xst1 rfl (by decide)) ?_
                exact Sp.vret rfl rfl rfl (fun _ _ h => h)
            · refine Sp.step rfl rfl rfl rfl ?_
              refine Sp.step rfl rfl rfl rfl ?_
              refine Sp.step rfl rfl rfl rfl ?_
              refine Sp.callP rfl rfl rfl rfl s_within (fun e18 => ?_) (fun e18 => ?_)
              · refine Sp.id (pc := 104) (l := [some (.ref 14), some (.int x), some (.int y)]) (st := [.int 1]) (h := hS x6 M) ?_
                refine Sp.step rfl rfl rfl rfl ?_
                refine Sp.step rfl rfl rfl rfl ?_
                refine Sp.step rfl rfl rfl (xg_F (c := 6) (f := 7) rfl rfl rfl rfl rfl) ?_
                refine Sp.step rfl rfl rfl rfl ?_
                refine Sp.step rfl rfl rfl rfl ?_
                refine Sp.step rfl rfl rfl (xst1 rfl (ix_le (N := 7) rfl e18.1 e18.2)) ?_
                refine Sp.step rfl rfl rfl rfl ?_
                exact Sp.vret rfl rfl rfl (fun _ _ h => h)
              · refine Sp.id (pc := 104) (l := [some (.ref 14), some (.int x), some (.int y)]) (st := [.int 0]) (h := hS x6 M) ?_
                refine Sp.step rfl rfl rfl rfl ?_
                refine Sp.step rfl rfl rfl rfl ?_
                refine Sp.step rfl rfl rfl rfl ?_
                refine Sp.prune (c := ¬ x = 48) ?_
                refine Sp.if2 rfl rfl rfl rfl (fun e22 => ?_) (fun e22 => absurd (fun h => absurd (((Classical.not_not.mp e15)).symm.trans h) (by decide)) e22)
                exact Sp.vret rfl rfl rfl (fun _ _ h => h)
          · refine Sp.step rfl rfl rfl rfl ?_
            refine Sp.step rfl rfl rfl (xg_F (c := 6) (f := 2) rfl rfl rfl rfl rfl) ?_
            refine Sp.step rfl rfl rfl rfl ?_
            refine Sp.call rfl rfl rfl (xrecv (c := 8) (by decide) rfl (by decide +kernel)) s_Source_isStaticRoutine (fun x23 => ⟨_, _, ⟨rfl, rfl⟩, ?_⟩)
            refine Sp.bool (fun e24 => ?_) (fun e24 => ?_)
            · refine Sp.id (pc := 80) (l := [some (.ref 14), some (.int x), some (.int y)]) (st := [.int 1]) (h := hS x6 M) ?_
              refine Sp.step rfl rfl rfl rfl ?_
              refine Sp.step rfl rfl rfl rfl ?_
              refine Sp.step rfl rfl rfl rfl ?_
              refine Sp.call rfl rfl rfl (xrecv (c := 6) (by decide) rfl (by decide +kernel)) s_Reach_addRoutine (fun x26 => ⟨_, _, ⟨rfl, rfl⟩, ?_⟩)
              refine Sp.id (pc := 88) (l := [some (.ref 14), some (.int x), some (.int y)]) (st := []) (h := hS x26 M) ?_
              refine Sp.step rfl rfl rfl rfl ?_
              exact Sp.vret rfl rfl rfl (fun _ _ h => h)
            · refine Sp.id (pc := 80) (l := [some (.ref 14), some (.int x), some (.int y)]) (st := [.int 0]) (h := hS x6 M) ?_
              refine Sp.step rfl rfl rfl rfl ?_
              refine Sp.step rfl rfl rfl rfl ?_
              refine Sp.step rfl rfl rfl rfl ?_
              refine Sp.prune (c := ¬ x = 39) ?_
              refine Sp.if2 rfl rfl rfl rfl (fun e28 => ?_) (fun e28 => absurd (fun h => absurd (((Classical.not_not.mp e14)).symm.trans h) (by decide)) e28)
              refine Sp.step rfl rfl rfl rfl ?_
              refine Sp.step rfl rfl rfl rfl ?_
              refine Sp.prune (c := ¬ x = 48) ?_
              refine Sp.if2 rfl rfl rfl rfl (fun e29 => ?_) (fun e29 => absurd (fun h => absurd (((Classical.not_not.mp e14)).symm.trans h) (by decide)) e29)
              exact Sp.vret rfl rfl rfl (fun _ _ h => h)
      · refine Sp.step rfl rfl rfl rfl ?_
        refine Sp.step rfl rfl rfl rfl ?_
        refine Sp.call rfl rfl rfl (xrecv (c := 6) (by decide) rfl (by decide +kernel)) s_Reach_addKind (fun x30 => ⟨_, _, ⟨rfl, rfl⟩, ?_⟩)
        refine Sp.id (pc := 41) (l := [some (.ref 14), some (.int x), some (.int y)]) (st := []) (h := hS x30 M) ?_
        refine Sp.step rfl rfl rfl rfl ?_
        exact Sp.vret rfl rfl rfl (fun _ _ h => h)
def b2_Reach_scan (x : Nat) (x16 : (Int32 × XS)) : Option ((Int32 × XS) ⊕ (Int32 × XS)) := (if (xT x16.2 x = some (12, 0)) then (if x16.2.1 x 6 ≤ x16.1 then some (.inr (x16.1, x16.2)) else (if 60 ≤ x16.1 then some (.inr (x16.1, x16.2)) else (ocz (x16.2.2.1 x 7) none (fun a20 => (ocz (xL x16.2 0 a20) none (fun n22 => (if ixo x16.1 n22 then (ocz (x16.2.2.1 x 8) none (fun a25 => (ocz (xL x16.2 0 a25) none (fun n27 => (if ixo x16.1 n27 then ((f_Reach_scanInstruction (x16.2.1 a20 x16.1.toNatClampNeg) (x16.2.1 a25 x16.1.toNatClampNeg) x16.2).bind fun x30 => some (.inl (x16.1 + 1, x30))) else none))))) else none))))))) else none)
def b40_Reach_scan (x : Nat) (x42 : (Int32 × XS)) : Option ((Int32 × XS) ⊕ (Int32 × XS)) := (if (xT x42.2 x = some (12, 0)) then (if x42.2.1 x 9 ≤ x42.1 then some (.inr (x42.1, x42.2)) else (if 6 ≤ x42.1 then some (.inr (x42.1, x42.2)) else (ocz (x42.2.2.1 x 13) none (fun a46 => (ocz (xL x42.2 0 a46) none (fun n48 => (if ixo x42.1 n48 then ((f_Reach_addKind (x42.2.1 a46 x42.1.toNatClampNeg) x42.2).bind fun x51 => some (.inl (x42.1 + 1, x51))) else none))))))) else none)
def f_Reach_scan (x : Nat) (X : XS) : Option XS := ((lp (b2_Reach_scan x) 10000 ((0 : Int32), X)).bind fun x31 => ((lp (b40_Reach_scan x) 10000 ((0 : Int32), x31.2)).bind fun x52 => some x52.2))
set_option maxRecDepth 100000 in
set_option maxHeartbeats 4000000 in
theorem s_Reach_scan {L : Nat} {xs : Nat → Int32} {X : XS} {M : MS} {x : Nat} : Sp (mjOO L xs) 250 0 [some (.ref 14), some (.ref x), none] [] (hS X M) (f_Reach_scan x X) (KVX M) := by
  unfold f_Reach_scan
  refine Sp.step rfl rfl rfl rfl ?_
  refine Sp.step rfl rfl rfl rfl ?_
  refine Sp.weak (l0 := [some (.ref 14), some (.ref x), some (.int 0)]) ⟨rfl, rfl, rfl, trivial⟩ ?_
  refine Sp.loopX (pe := 38) (mf := (fun (x16 : (Int32 × XS)) => [some (.ref 14), some (.ref x), some (.int x16.1)])) (hf := (fun (x16 : (Int32 × XS)) => hS x16.2 M)) (fun x16 => ?_) (fun x31 => ?_) _ _
  · unfold b2_Reach_scan
    refine Sp.step rfl rfl rfl rfl ?_
    refine Sp.step rfl rfl rfl rfl ?_
    refine Sp.guard (fun e17 => ?_)
    refine Sp.step rfl rfl rfl (xg_I (c := 7) (f := 6) rfl rfl e17 rfl) ?_
    refine Sp.if2 rfl rfl rfl rfl (fun e18 => ?_) (fun e18 => ?_)
    · exact Sp.jmp (l0 := [some (.ref 14), some (.ref x), some (.int x16.1)]) ⟨rfl, rfl, rfl, trivial⟩ (fun _ _ h => h)
    · refine Sp.step rfl rfl rfl rfl ?_
      refine Sp.step rfl rfl rfl rfl ?_
      refine Sp.if2 rfl rfl rfl rfl (fun e19 => ?_) (fun e19 => ?_)
      · exact Sp.jmp (l0 := [some (.ref 14), some (.ref x), some (.int x16.1)]) ⟨rfl, rfl, rfl, trivial⟩ (fun _ _ h => h)
      · refine Sp.step rfl rfl rfl rfl ?_
        refine Sp.step rfl rfl rfl rfl ?_
        refine Sp.step rfl rfl rfl (xg_D (c := 7) (f := 7) rfl rfl e17 rfl (fxP_big (dyn_of (c := 7) e17 rfl))) ?_
        refine Sp.ocrn (fun a20 e21 => ?_)
        refine Sp.step rfl rfl rfl rfl ?_
        refine Sp.ocn (fun n22 e23 => ?_)
        refine Sp.guard (fun e24 => ?_)
        refine Sp.step rfl rfl rfl (xld (xL_ok e23) (by decide) e24) ?_
        refine Sp.step rfl rfl rfl rfl ?_
        refine Sp.step rfl rfl rfl (xg_D (c := 7) (f := 8) rfl rfl e17 rfl (fxP_big (dyn_of (c := 7) e17 rfl))) ?_
        refine Sp.ocrn (fun a25 e26 => ?_)
        refine Sp.step rfl rfl rfl rfl ?_
        refine Sp.ocn (fun n27 e28 => ?_)
        refine Sp.guard (fun e29 => ?_)
        refine Sp.step rfl rfl rfl (xld (xL_ok e28) (by decide) e29) ?_
        refine Sp.call rfl rfl rfl (xrecv (c := 6) (by decide) rfl (by decide +kernel)) s_Reach_scanInstruction (fun x30 => ⟨_, _, ⟨rfl, rfl⟩, ?_⟩)
        refine Sp.id (pc := 32) (l := [some (.ref 14), some (.ref x), some (.int x16.1)]) (st := []) (h := hS x30 M) ?_
        refine Sp.step rfl rfl rfl rfl ?_
        refine Sp.step rfl rfl rfl rfl ?_
        exact Sp.jmp (l0 := [some (.ref 14), some (.ref x), some (.int (x16.1 + 1))]) ⟨rfl, rfl, rfl, trivial⟩ (fun _ _ h => h)
  · refine Sp.step rfl rfl rfl rfl ?_
    refine Sp.step rfl rfl rfl rfl ?_
    refine Sp.weak (l0 := [some (.ref 14), some (.ref x), some (.int 0)]) ⟨rfl, rfl, rfl, trivial⟩ ?_
    refine Sp.loopX (pe := 70) (mf := (fun (x42 : (Int32 × XS)) => [some (.ref 14), some (.ref x), some (.int x42.1)])) (hf := (fun (x42 : (Int32 × XS)) => hS x42.2 M)) (fun x42 => ?_) (fun x52 => ?_) _ _
    · unfold b40_Reach_scan
      refine Sp.step rfl rfl rfl rfl ?_
      refine Sp.step rfl rfl rfl rfl ?_
      refine Sp.guard (fun e43 => ?_)
      refine Sp.step rfl rfl rfl (xg_I (c := 7) (f := 9) rfl rfl e43 rfl) ?_
      refine Sp.if2 rfl rfl rfl rfl (fun e44 => ?_) (fun e44 => ?_)
      · exact Sp.jmp (l0 := [some (.ref 14), some (.ref x), some (.int x42.1)]) ⟨rfl, rfl, rfl, trivial⟩ (fun _ _ h => h)
      · refine Sp.step rfl rfl rfl rfl ?_
        refine Sp.step rfl rfl rfl rfl ?_
        refine Sp.if2 rfl rfl rfl rfl (fun e45 => ?_) (fun e45 => ?_)
        · exact Sp.jmp (l0 := [some (.ref 14), some (.ref x), some (.int x42.1)]) ⟨rfl, rfl, rfl, trivial⟩ (fun _ _ h => h)
        · refine Sp.step rfl rfl rfl rfl ?_
          refine Sp.step rfl rfl rfl rfl ?_
          refine Sp.step rfl rfl rfl (xg_D (c := 7) (f := 13) rfl rfl e43 rfl (fxP_big (dyn_of (c := 7) e43 rfl))) ?_
          refine Sp.ocrn (fun a46 e47 => ?_)
          refine Sp.step rfl rfl rfl rfl ?_
          refine Sp.ocn (fun n48 e49 => ?_)
          refine Sp.guard (fun e50 => ?_)
          refine Sp.step rfl rfl rfl (xld (xL_ok e49) (by decide) e50) ?_
          refine Sp.call rfl rfl rfl (xrecv (c := 6) (by decide) rfl (by decide +kernel)) s_Reach_addKind (fun x51 => ⟨_, _, ⟨rfl, rfl⟩, ?_⟩)
          refine Sp.id (pc := 64) (l := [some (.ref 14), some (.ref x), some (.int x42.1)]) (st := []) (h := hS x51 M) ?_
          refine Sp.step rfl rfl rfl rfl ?_
          refine Sp.step rfl rfl rfl rfl ?_
          exact Sp.jmp (l0 := [some (.ref 14), some (.ref x), some (.int (x42.1 + 1))]) ⟨rfl, rfl, rfl, trivial⟩ (fun _ _ h => h)
    · exact Sp.vret rfl rfl rfl (fun _ _ h => h)
