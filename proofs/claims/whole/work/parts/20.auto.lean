/-! ROWS FOR WALKS BY PROGRAM -/
theorem Go.if1 {o : MjO} {y pc : Nat} {ml : MjL} {st : List Value} {h : MjH} {r : Option Value} {h' : MjH} {q : MjIns} {f : Int32 → Bool} {x : Int32} (hf : mjFetch y pc = some q) (hq : (decide (q.1 < 69) || decide (74 < q.1) && (mjNat q.1).isNone) = true) (hh : mjHd q.1 = some (mjIf f)) (kt : f x = true → Go o y q.2.2.1 ml st h r h') (kf : f x = false → Go o y (pc + 3) ml st h r h') : Go o y pc ml (.int x :: st) h r h' := by
  cases hx : f x with
  | true => exact Go.step hf hq hh (by unfold mjIf; dsimp only; rw [if_pos hx]) (kt hx)
  | false => exact Go.step hf hq hh (by unfold mjIf; dsimp only; rw [if_neg (by rw [hx]; decide)]) (kf hx)
theorem Go.if2 {o : MjO} {y pc : Nat} {ml : MjL} {st : List Value} {h : MjH} {r : Option Value} {h' : MjH} {q : MjIns} {f : Int32 → Int32 → Bool} {x z : Int32} (hf : mjFetch y pc = some q) (hq : (decide (q.1 < 69) || decide (74 < q.1) && (mjNat q.1).isNone) = true) (hh : mjHd q.1 = some (mjIf2 f)) (kt : f x z = true → Go o y q.2.2.1 ml st h r h') (kf : f x z = false → Go o y (pc + 3) ml st h r h') : Go o y pc ml (.int z :: .int x :: st) h r h' := by
  cases hx : f x z with
  | true => exact Go.step hf hq hh (go_if2t hx) (kt hx)
  | false => exact Go.step hf hq hh (go_if2f hx) (kf hx)
theorem Go.iretE {o : MjO} {y pc : Nat} {ml : MjL} {v : Int32} {h h' : MjH} {q : MjIns} {ty : FieldType} {r : Option Value} (hf : mjFetch y pc = some q) (hq : q.1 = 71) (ht : (mjMeth y).2.2.2.1 = some ty) (hn : mjNar ty (.int v) = true) (hr : r = some (.int v)) (hh : h' = h) : Go o y pc ml [.int v] h r h' := by
  subst hr
  subst hh
  exact Go.iret hf hq ht hn
theorem go_get {o : MjO} {q : MjIns} {pc : Nat} {ml : MjL} {st : List Value} {h : MjH} {r c : Nat} {fs : List Value} {v : Value} (hh : h[r]? = some (.inr (c, fs))) (hc : c = q.2.2.2.1) (hk : fs[q.2.2.2.2.1]? = some v) : mjGet o q pc ml (.ref r :: st) h = some (pc + 3, ml, v :: st, h) := by
  unfold mjGet
  dsimp only
  rw [hh]
  dsimp only
  rw [if_pos hc, hk]
theorem go_put {o : MjO} {q : MjIns} {pc : Nat} {ml : MjL} {st : List Value} {h : MjH} {r c : Nat} {fs : List Value} {v : Value} (hh : h[r]? = some (.inr (c, fs))) (hc : c = q.2.2.2.1 ∧ q.2.2.2.2.1 < fs.length ∧ mjNar (mjTy c q.2.2.2.2.1) v = true) : mjPut o q pc ml (v :: .ref r :: st) h = some (pc + 3, ml, st, h.set r (.inr (c, fs.set q.2.2.2.2.1 v))) := by
  unfold mjPut
  dsimp only
  rw [hh]
  dsimp only
  rw [if_pos hc]
theorem go_ld {o : MjO} {q : MjIns} {pc t : Nat} {ml : MjL} {st : List Value} {h : MjH} {r n : Nat} {f : Nat → Int32} {i : Int32} (hh : h[r]? = some (.inl (t, n, .inl f))) (hi : ¬ (i < 0 ∨ n ≤ i.toNatClampNeg)) : mjLd t o q pc ml (.int i :: .ref r :: st) h = some (pc + 1, ml, .int (f i.toNatClampNeg) :: st, h) := by
  unfold mjLd
  dsimp only
  rw [hh]
  dsimp only
  rw [if_pos ⟨rfl, hi⟩]
theorem go_st {o : MjO} {q : MjIns} {pc t : Nat} {g : Int32 → Int32} {ml : MjL} {st : List Value} {h : MjH} {r n : Nat} {f : Nat → Int32} {i x : Int32} (hh : h[r]? = some (.inl (t, n, .inl f))) (hi : ¬ (i < 0 ∨ n ≤ i.toNatClampNeg)) : mjSt t g o q pc ml (.int x :: .int i :: .ref r :: st) h = some (pc + 1, ml, st, h.set r (.inl (t, n, .inl (upd f i.toNatClampNeg (g x))))) := by
  unfold mjSt
  dsimp only
  rw [hh]
  dsimp only
  rw [if_pos ⟨rfl, hi⟩]
/-- an index that was looked at -/
theorem ix_ok {i : Int32} {n : Nat} {N : Int32} (hN : N.toInt = n) (h0 : 0 ≤ i) (h1 : i < N) : ¬ (i < 0 ∨ n ≤ i.toNatClampNeg) := by
  rw [Int32.lt_iff_toInt_lt] at h1
  rw [Int32.le_iff_toInt_le] at h0
  have e0 : (0 : Int32).toInt = 0 := rfl
  rw [e0] at h0
  intro e
  rcases e with e | e
  · rw [Int32.lt_iff_toInt_lt, e0] at e
    omega
  · have e : n ≤ i.toInt.toNat := e
    omega
theorem go_ift {f : Int32 → Bool} {o : MjO} {q : MjIns} {pc : Nat} {ml : MjL} {st : List Value} {h : MjH} {x : Int32} (hc : f x = true) : mjIf f o q pc ml (.int x :: st) h = some (q.2.2.1, ml, st, h) := by
  unfold mjIf
  dsimp only
  rw [if_pos hc]
theorem go_iff {f : Int32 → Bool} {o : MjO} {q : MjIns} {pc : Nat} {ml : MjL} {st : List Value} {h : MjH} {x : Int32} (hc : f x = false) : mjIf f o q pc ml (.int x :: st) h = some (pc + 3, ml, st, h) := by
  unfold mjIf
  dsimp only
  rw [if_neg (by rw [hc]; decide)]
/-- a call that answers yes or no, and leaves the cells alone -/
theorem Go.callB {o : MjO} {y pc : Nat} {ml : MjL} {st : List Value} {h : MjH} {r : Option Value} {h' : MjH} {q : MjIns} {vs rest : List Value} {P : Prop} [Decidable P] (hf : mjFetch y pc = some q) (hq : q.1 = 69) (he : mjEnter y q.2.2.2.1 st = some (vs, rest)) (hrc : mjRecv q.2.2.2.1 q.2.2.2.2.1 h vs = true) (kc : Go o q.2.2.2.1 0 (vs.map some ++ List.replicate ((mjMeth q.2.2.2.1).2.2.1 - vs.length) none) [] h (some (.int (if P then 1 else 0))) h) (kt : P → Go o y (pc + 3) ml (.int 1 :: rest) h r h') (kf : ¬ P → Go o y (pc + 3) ml (.int 0 :: rest) h r h') : Go o y pc ml st h r h' := by
  by_cases hP : P
  · rw [if_pos hP] at kc
    exact Go.call hf hq he hrc kc (kt hP)
  · rw [if_neg hP] at kc
    exact Go.call hf hq he hrc kc (kf hP)
