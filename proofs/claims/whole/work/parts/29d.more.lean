/-! more of the same -/
theorem xL_ok {X : XS} {t a n : Nat} (h : xL X t a = some n) : xT X a = some (t, n) := by
  unfold xL at h
  cases hx : xT X a with
  | none => rw [hx] at h; cases h
  | some q =>
    rw [hx] at h
    dsimp only at h
    split at h
    · rename_i e
      cases h
      rw [← e]
    · cases h
theorem xst0 {X : XS} {M : MS} {o : MjO} {q : MjIns} {pc : Nat} {l : MjL} {st : List Value} {a n : Nat} {i : Int32} (ht : xT X a = some (1, n)) (hi : ixo i n) : mjSt 1 (vp_nar .boolean) o q pc l (.int 0 :: .int i :: .ref a :: st) (hS X M) = some (pc + 1, l, st, hS (xw X a i.toNatClampNeg 0) M) := xst ht (by decide) hi
theorem xst1 {X : XS} {M : MS} {o : MjO} {q : MjIns} {pc : Nat} {l : MjL} {st : List Value} {a n : Nat} {i : Int32} (ht : xT X a = some (1, n)) (hi : ixo i n) : mjSt 1 (vp_nar .boolean) o q pc l (.int 1 :: .int i :: .ref a :: st) (hS X M) = some (pc + 1, l, st, hS (xw X a i.toNatClampNeg 1) M) := xst ht (by decide) hi
theorem mst0 {X : XS} {M : MS} {o : MjO} {q : MjIns} {pc : Nat} {l : MjL} {st : List Value} {a n : Nat} {i : Int32} (ht : fxT[a]? = some (1, n)) (hr : (decide (60 ≤ a ∧ a < 130)) = true) (hi : ixo i n) : mjSt 1 (vp_nar .boolean) o q pc l (.int 0 :: .int i :: .ref a :: st) (hS X M) = some (pc + 1, l, st, hS X (mw M a i.toNatClampNeg 0)) := mst ht hr (by decide) hi
theorem mst1 {X : XS} {M : MS} {o : MjO} {q : MjIns} {pc : Nat} {l : MjL} {st : List Value} {a n : Nat} {i : Int32} (ht : fxT[a]? = some (1, n)) (hr : (decide (60 ≤ a ∧ a < 130)) = true) (hi : ixo i n) : mjSt 1 (vp_nar .boolean) o q pc l (.int 1 :: .int i :: .ref a :: st) (hS X M) = some (pc + 1, l, st, hS X (mw M a i.toNatClampNeg 1)) := mst ht hr (by decide) hi
theorem xnewK {X : XS} {M : MS} {o : MjO} {q : MjIns} {pc t k : Nat} {l : MjL} {st : List Value} {n : Int32} (hq : q.2.2.1 = t) (h3 : t < 3) (hk : n.toNatClampNeg = k) (hn : ¬ (n < 0 ∨ 100000 < n.toNatClampNeg)) : mjNewA o q pc l (.int n :: st) (hS X M) = some (pc + 2, l, .ref (xA X) :: st, hS (xn X t k) M) := by
  subst hk
  exact xnewA hq h3 hn
def sb {α ρ : Type} (s : α ⊕ ρ) (f : α → Option ρ) : Option ρ := match s with
  | .inl x => f x
  | .inr v => some v
theorem s_within {L : Nat} {xs : Nat → Int32} {h : MjH} {x y z : Int32} : Sp (mjOO L xs) 16 0 [some (.int x), some (.int y), some (.int z)] [] h (some (decide (y ≤ x ∧ x ≤ z))) (KB h) := by
  intro b hb r h' hK
  cases hb
  obtain ⟨rfl, rfl⟩ := hK
  have e := g_within (o := mjOO L xs) (h := h') x y z
  by_cases p : y ≤ x ∧ x ≤ z
  · rw [if_pos p] at e; rw [decide_eq_true p]; exact e
  · rw [if_neg p] at e; rw [decide_eq_false p]; exact e
theorem s_isIn {L : Nat} {xs : Nat → Int32} {h : MjH} {x y z : Int32} : Sp (mjOO L xs) 21 0 [some (.int x), some (.int y), some (.int z)] [] h (some (decide (y ≤ x ∧ x ≤ z))) (KB h) := by
  intro b hb r h' hK
  cases hb
  obtain ⟨rfl, rfl⟩ := hK
  have e := g_isIn (o := mjOO L xs) (h := h') x y z
  by_cases p : y ≤ x ∧ x ≤ z
  · rw [if_pos p] at e; rw [decide_eq_true p]; exact e
  · rw [if_neg p] at e; rw [decide_eq_false p]; exact e
section
variable {o : MjO} {y pc : Nat} {l : MjL} {st : List Value} {h : MjH} {ρ : Type} {K : SpK ρ}
theorem Sp.callP {q : MjIns} {vs rest : List Value} {P : Prop} [Decidable P] {e1 e2 : Option ρ} (hf : mjFetch y pc = some q) (hq : q.1 = 69) (he : mjEnter y q.2.2.2.1 st = some (vs, rest)) (hrc : mjRecv q.2.2.2.1 q.2.2.2.2.1 h vs = true) (kc : Sp o q.2.2.2.1 0 (vs.map some ++ List.replicate ((mjMeth q.2.2.2.1).2.2.1 - vs.length) Option.none) [] h (some (decide P)) (KB h)) (kt : P → Sp o y (pc + 3) l (.int 1 :: rest) h e1 K) (kf : ¬ P → Sp o y (pc + 3) l (.int 0 :: rest) h e2 K) : Sp o y pc l st h (if P then e1 else e2) K := by
  by_cases p : P
  · rw [if_pos p]
    rw [decide_eq_true p] at kc
    exact Sp.callS hf hq he hrc kc ⟨rfl, rfl⟩ (kt p)
  · rw [if_neg p]
    rw [decide_eq_false p] at kc
    exact Sp.callS hf hq he hrc kc ⟨rfl, rfl⟩ (kf p)
theorem Sp.callPV {q : MjIns} {vs rest : List Value} {P : Prop} [Decidable P] {e1 e2 : ρ} (hf : mjFetch y pc = some q) (hq : q.1 = 69) (he : mjEnter y q.2.2.2.1 st = some (vs, rest)) (hrc : mjRecv q.2.2.2.1 q.2.2.2.2.1 h vs = true) (kc : Sp o q.2.2.2.1 0 (vs.map some ++ List.replicate ((mjMeth q.2.2.2.1).2.2.1 - vs.length) Option.none) [] h (some (decide P)) (KB h)) (kt : P → Sp o y (pc + 3) l (.int 1 :: rest) h (some e1) K) (kf : ¬ P → Sp o y (pc + 3) l (.int 0 :: rest) h (some e2) K) : Sp o y pc l st h (some (if P then e1 else e2)) K := by
  rw [apply_ite some]
  exact Sp.callP hf hq he hrc kc kt kf
def KY (o : MjO) (y pc pe : Nat) {T ρ : Type} (mf : T → MjL) (hf : T → MjH) (K : SpK ρ) : SpK (T ⊕ (T ⊕ ρ)) := fun s r h' => match s with
  | .inl x => Go o y pc (mf x) [] (hf x) r h'
  | .inr (.inl x) => Go o y pe (mf x) [] (hf x) r h'
  | .inr (.inr v) => K v r h'
theorem Sp.loopY {T : Type} {pe : Nat} {body : T → Option (T ⊕ (T ⊕ ρ))} {mf : T → MjL} {hf : T → MjH} {f : T → Option ρ} (hb : ∀ x, Sp o y pc (mf x) [] (hf x) (body x) (KY o y pc pe mf hf K)) (k : ∀ x, Sp o y pe (mf x) [] (hf x) (f x) K) (n : Nat) (x : T) : Sp o y pc (mf x) [] (hf x) ((lp body n x).bind fun s => sb s f) K := by
  intro x1 hx r h' hK
  cases hl : lp body n x with
  | none => rw [hl] at hx; cases hx
  | some x2 =>
    rw [hl] at hx
    refine Sp.loopL (ρ := T ⊕ ρ) (K := fun s r h' => match s with
      | .inl x => Go o y pe (mf x) [] (hf x) r h'
      | .inr v => K v r h') (fun x => ?_) n x x2 hl r h' ?_
    · intro s hs r h' hk
      refine hb x s hs r h' ?_
      rcases s with s | s | s
      · exact hk
      · exact hk
      · exact hk
    · rcases x2 with x2 | x2
      · exact k x2 x1 hx r h' hK
      · cases hx
        exact hK
end
