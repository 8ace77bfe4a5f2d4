/-! A POINT OF A METHOD AND WHAT IS COMPUTED FROM THERE: Sp: whatever e answers, if what K says of it comes to (r, h'), so does the method from here -/
abbrev SpK (ρ : Type) : Type := ρ → Option Value → MjH → Prop
def Sp (o : MjO) (y pc : Nat) (l : MjL) (st : List Value) (h : MjH) {ρ : Type} (e : Option ρ) (K : SpK ρ) : Prop := ∀ x, e = some x → ∀ r h', K x r h' → Go o y pc l st h r h'
section
variable {o : MjO} {y pc : Nat} {l : MjL} {st : List Value} {h : MjH} {ρ : Type} {K : SpK ρ}
theorem Sp.none : Sp o y pc l st h (none : Option ρ) K := fun _ hx => by cases hx
theorem Sp.step {q : MjIns} {hd : MjHd} {pc1 : Nat} {l1 : MjL} {st1 : List Value} {h1 : MjH} {e : Option ρ} (hf : mjFetch y pc = some q) (hq : (decide (q.1 < 69) || decide (74 < q.1) && (mjNat q.1).isNone) = true) (hh : mjHd q.1 = some hd) (hr : hd o q pc l st h = some (pc1, l1, st1, h1)) (k : Sp o y pc1 l1 st1 h1 e K) : Sp o y pc l st h e K := fun x hx r h' hK => Go.step hf hq hh hr (k x hx r h' hK)
theorem Sp.nat {q : MjIns} {hd : MjHd} {pc1 : Nat} {l1 : MjL} {st1 : List Value} {h1 : MjH} {e : Option ρ} (hf : mjFetch y pc = some q) (hq : (decide (73 < q.1)) = true) (hh : mjNat q.1 = some hd) (hr : hd o q pc l st h = some (pc1, l1, st1, h1)) (hc : 1 ≤ (mjMeth y).2.2.2.2.2.2.1 ∧ 26 ≤ (mjMeth y).2.2.2.2.2.2.2 ∧ (st1.all mjOne && decide (st1.length ≤ 8)) = true) (k : Sp o y pc1 l1 st1 h1 e K) : Sp o y pc l st h e K := fun x hx r h' hK => Go.nat hf hq hh hr hc (k x hx r h' hK)
theorem Sp.oinit {a : Nat} {q : MjIns} {e : Option ρ} (hf : mjFetch y pc = some q) (hq : q.1 = 70) (hc : 1 ≤ (mjMeth y).2.2.2.2.2.2.1 ∧ 20 ≤ (mjMeth y).2.2.2.2.2.2.2 ∧ (st.all mjOne && decide (st.length ≤ 8)) = true) (k : Sp o y (pc + 3) l st h e K) : Sp o y pc l (.ref a :: st) h e K := fun x hx r h' hK => Go.oinit hf hq hc (k x hx r h' hK)
theorem Sp.weak {l0 : MjL} {e : Option ρ} (hle : MlLe l0 l) (k : Sp o y pc l0 st h e K) : Sp o y pc l st h e K := fun x hx r h' hK => Go.weak hle (k x hx r h' hK)
theorem Sp.if1 {q : MjIns} {f : Int32 → Bool} {x : Int32} {P : Prop} [Decidable P] {e1 e2 : Option ρ} (hf : mjFetch y pc = some q) (hq : (decide (q.1 < 69) || decide (74 < q.1) && (mjNat q.1).isNone) = true) (hh : mjHd q.1 = some (mjIf f)) (hP : f x = decide P) (kt : P → Sp o y q.2.2.1 l st h e1 K) (kf : ¬ P → Sp o y (pc + 3) l st h e2 K) : Sp o y pc l (.int x :: st) h (if P then e1 else e2) K := by
  by_cases p : P
  · rw [if_pos p]
    exact Sp.step hf hq hh (go_ift (hP.trans (decide_eq_true p))) (kt p)
  · rw [if_neg p]
    exact Sp.step hf hq hh (go_iff (hP.trans (decide_eq_false p))) (kf p)
theorem Sp.if2 {q : MjIns} {f : Int32 → Int32 → Bool} {x z : Int32} {P : Prop} [Decidable P] {e1 e2 : Option ρ} (hf : mjFetch y pc = some q) (hq : (decide (q.1 < 69) || decide (74 < q.1) && (mjNat q.1).isNone) = true) (hh : mjHd q.1 = some (mjIf2 f)) (hP : f x z = decide P) (kt : P → Sp o y q.2.2.1 l st h e1 K) (kf : ¬ P → Sp o y (pc + 3) l st h e2 K) : Sp o y pc l (.int z :: .int x :: st) h (if P then e1 else e2) K := by
  by_cases p : P
  · rw [if_pos p]
    exact Sp.step hf hq hh (go_if2t (hP.trans (decide_eq_true p))) (kt p)
  · rw [if_neg p]
    exact Sp.step hf hq hh (go_if2f (hP.trans (decide_eq_false p))) (kf p)
theorem Sp.ite {P : Prop} [Decidable P] {e1 e2 : Option ρ} (kt : P → Sp o y pc l st h e1 K) (kf : ¬ P → Sp o y pc l st h e2 K) : Sp o y pc l st h (if P then e1 else e2) K := by
  by_cases p : P
  · rw [if_pos p]; exact kt p
  · rw [if_neg p]; exact kf p
theorem Sp.guard {P : Prop} [Decidable P] {e : Option ρ} (k : P → Sp o y pc l st h e K) : Sp o y pc l st h (if P then e else Option.none) K := Sp.ite k (fun _ => Sp.none)
theorem Sp.bool {b : Bool} {e1 e2 : Option ρ} (kt : b = true → Sp o y pc l (.int 1 :: st) h e1 K) (kf : b = false → Sp o y pc l (.int 0 :: st) h e2 K) : Sp o y pc l (.int (if b = true then 1 else 0) :: st) h (if b = true then e1 else e2) K := by
  cases b with
  | true => exact kt rfl
  | false => exact kf rfl
theorem Sp.oc {α : Type} {u : Option α} {e0 : Option ρ} {e1 : α → Option ρ} (k0 : u = Option.none → Sp o y pc l st h e0 K) (k1 : ∀ a, u = some a → Sp o y pc l st h (e1 a) K) : Sp o y pc l st h (ocz u e0 e1) K := by
  cases u with
  | none => exact k0 rfl
  | some a => exact k1 a rfl
theorem Sp.ocn {α : Type} {u : Option α} {e1 : α → Option ρ} (k1 : ∀ a, u = some a → Sp o y pc l st h (e1 a) K) : Sp o y pc l st h (ocz u Option.none e1) K := Sp.oc (fun _ => Sp.none) k1
/-- a reference that may be null was loaded -/
theorem Sp.ocr {u : Option Nat} {e0 : Option ρ} {e1 : Nat → Option ρ} (k0 : u = Option.none → Sp o y pc l (.null :: st) h e0 K) (k1 : ∀ a, u = some a → Sp o y pc l (.ref a :: st) h (e1 a) K) : Sp o y pc l (va_rf u :: st) h (ocz u e0 e1) K := by
  cases u with
  | none => exact k0 rfl
  | some a => exact k1 a rfl
theorem Sp.ocrn {u : Option Nat} {e1 : Nat → Option ρ} (k1 : ∀ a, u = some a → Sp o y pc l (.ref a :: st) h (e1 a) K) : Sp o y pc l (va_rf u :: st) h (ocz u Option.none e1) K := Sp.ocr (fun _ => Sp.none) k1
theorem Sp.call {q : MjIns} {vs rest : List Value} {ρ1 : Type} {e1 : Option ρ1} {f : ρ1 → Option ρ} {K1 : SpK ρ1} (hf : mjFetch y pc = some q) (hq : q.1 = 69) (he : mjEnter y q.2.2.2.1 st = some (vs, rest)) (hrc : mjRecv q.2.2.2.1 q.2.2.2.2.1 h vs = true) (kc : Sp o q.2.2.2.1 0 (vs.map some ++ List.replicate ((mjMeth q.2.2.2.1).2.2.1 - vs.length) Option.none) [] h e1 K1) (k : ∀ x, ∃ r1 h1, K1 x r1 h1 ∧ Sp o y (pc + 3) l (r1.toList ++ rest) h1 (f x) K) : Sp o y pc l st h (e1.bind f) K := by
  intro x hx r h' hK
  cases e1 with
  | none => cases hx
  | some x1 =>
    obtain ⟨r1, h1, a1, a2⟩ := k x1
    exact Go.call hf hq he hrc (kc x1 rfl r1 h1 a1) (a2 x hx r h' hK)
/-- a call that always answers -/
theorem Sp.callS {q : MjIns} {vs rest : List Value} {ρ1 : Type} {x1 : ρ1} {e : Option ρ} {K1 : SpK ρ1} {r1 : Option Value} {h1 : MjH} (hf : mjFetch y pc = some q) (hq : q.1 = 69) (he : mjEnter y q.2.2.2.1 st = some (vs, rest)) (hrc : mjRecv q.2.2.2.1 q.2.2.2.2.1 h vs = true) (kc : Sp o q.2.2.2.1 0 (vs.map some ++ List.replicate ((mjMeth q.2.2.2.1).2.2.1 - vs.length) Option.none) [] h (some x1) K1) (hK1 : K1 x1 r1 h1) (k : Sp o y (pc + 3) l (r1.toList ++ rest) h1 e K) : Sp o y pc l st h e K := fun x hx r h' hK => Go.call hf hq he hrc (kc x1 rfl r1 h1 hK1) (k x hx r h' hK)
theorem Sp.iret {v : Int32} {q : MjIns} {ty : FieldType} {x : ρ} (hf : mjFetch y pc = some q) (hq : q.1 = 71) (ht : (mjMeth y).2.2.2.1 = some ty) (hn : mjNar ty (.int v) = true) (hK : ∀ r h', K x r h' → r = some (.int v) ∧ h' = h) : Sp o y pc l [.int v] h (some x) K := by
  intro x1 hx r h' hk
  cases hx
  obtain ⟨rfl, rfl⟩ := hK r h' hk
  exact Go.iret hf hq ht hn
theorem Sp.vret {q : MjIns} {x : ρ} (hf : mjFetch y pc = some q) (hq : q.1 = 72) (ht : (mjMeth y).2.2.2.1 = Option.none) (hK : ∀ r h', K x r h' → r = Option.none ∧ h' = h) : Sp o y pc l [] h (some x) K := by
  intro x1 hx r h' hk
  cases hx
  obtain ⟨rfl, rfl⟩ := hK r h' hk
  exact Go.vret hf hq ht
theorem Sp.aret {a : Nat} {q : MjIns} {x : ρ} {t : FieldType} (hf : mjFetch y pc = some q) (hq : q.1 = 73) (ht : (mjMeth y).2.2.2.1 = some (.array t)) (hK : ∀ r h', K x r h' → r = some (.ref a) ∧ h' = h) : Sp o y pc l [.ref a] h (some x) K := by
  intro x1 hx r h' hk
  cases hx
  obtain ⟨rfl, rfl⟩ := hK r h' hk
  exact Go.aretA hf hq ht rfl
/-- here the round, or the piece, ends -/
theorem Sp.jmp {l0 : MjL} {x : ρ} (hle : MlLe l0 l) (hK : ∀ r h', K x r h' → Go o y pc l0 st h r h') : Sp o y pc l st h (some x) K := by
  intro x1 hx r h' hk
  cases hx
  exact Go.weak hle (hK r h' hk)
/-- what stands behind a piece: the loop's head, its end -/
def KX (o : MjO) (y pc pe : Nat) {T : Type} (mf : T → MjL) (hf : T → MjH) : SpK (T ⊕ T) := fun s r h' => match s with
  | .inl x => Go o y pc (mf x) [] (hf x) r h'
  | .inr x => Go o y pe (mf x) [] (hf x) r h'
def KL (o : MjO) (y pc : Nat) {T ρ : Type} (mf : T → MjL) (hf : T → MjH) (K : SpK ρ) : SpK (T ⊕ ρ) := fun s r h' => match s with
  | .inl x => Go o y pc (mf x) [] (hf x) r h'
  | .inr x => K x r h'
theorem Sp.loopL {T : Type} {body : T → Option (T ⊕ ρ)} {mf : T → MjL} {hf : T → MjH} (hb : ∀ x, Sp o y pc (mf x) [] (hf x) (body x) (KL o y pc mf hf K)) : ∀ (n : Nat) (x : T), Sp o y pc (mf x) [] (hf x) (lp body n x) K := by
  intro n
  induction n with
  | zero => intro x x1 hx; cases hx
  | succ n ih =>
    intro x x1 hx r h' hK
    unfold lp at hx
    have hb := hb x
    cases hbx : body x with
    | none => rw [hbx] at hx; cases hx
    | some s =>
      rw [hbx] at hx
      cases s with
      | inl x2 => exact hb _ hbx r h' (ih x2 x1 hx r h' hK)
      | inr x2 =>
        cases hx
        exact hb _ hbx r h' hK
theorem Sp.loopX {T : Type} {pe : Nat} {body : T → Option (T ⊕ T)} {mf : T → MjL} {hf : T → MjH} {f : T → Option ρ} (hb : ∀ x, Sp o y pc (mf x) [] (hf x) (body x) (KX o y pc pe mf hf)) (k : ∀ x, Sp o y pe (mf x) [] (hf x) (f x) K) (n : Nat) (x : T) : Sp o y pc (mf x) [] (hf x) ((lp body n x).bind f) K := by
  intro x1 hx r h' hK
  cases hl : lp body n x with
  | none => rw [hl] at hx; cases hx
  | some x2 =>
    rw [hl] at hx
    exact Sp.loopL (ρ := T) (K := fun x r h' => Go o y pe (mf x) [] (hf x) r h') (fun x => by
      intro s hs r h' hk
      refine hb x s hs r h' ?_
      cases s with
      | inl s => exact hk
      | inr s => exact hk) n x x2 hl r h' (k x2 x1 hx r h' hK)
/-- a piece with one end -/
theorem Sp.piece {T : Type} {pe : Nat} {e : Option T} {mf : T → MjL} {sf : T → List Value} {hf : T → MjH} {f : T → Option ρ} (he : Sp o y pc l st h e (fun x r h' => Go o y pe (mf x) (sf x) (hf x) r h')) (k : ∀ x, Sp o y pe (mf x) (sf x) (hf x) (f x) K) : Sp o y pc l st h (e.bind f) K := by
  intro x1 hx r h' hK
  cases e with
  | none => cases hx
  | some x2 => exact he x2 rfl r h' (k x2 x1 hx r h' hK)
/-! the same for values that are always there -/
theorem Sp.if1V {q : MjIns} {f : Int32 → Bool} {x : Int32} {P : Prop} [Decidable P] {e1 e2 : ρ} (hf : mjFetch y pc = some q) (hq : (decide (q.1 < 69) || decide (74 < q.1) && (mjNat q.1).isNone) = true) (hh : mjHd q.1 = some (mjIf f)) (hP : f x = decide P) (kt : P → Sp o y q.2.2.1 l st h (some e1) K) (kf : ¬ P → Sp o y (pc + 3) l st h (some e2) K) : Sp o y pc l (.int x :: st) h (some (if P then e1 else e2)) K := by
  rw [apply_ite some]
  exact Sp.if1 hf hq hh hP kt kf
theorem Sp.if2V {q : MjIns} {f : Int32 → Int32 → Bool} {x z : Int32} {P : Prop} [Decidable P] {e1 e2 : ρ} (hf : mjFetch y pc = some q) (hq : (decide (q.1 < 69) || decide (74 < q.1) && (mjNat q.1).isNone) = true) (hh : mjHd q.1 = some (mjIf2 f)) (hP : f x z = decide P) (kt : P → Sp o y q.2.2.1 l st h (some e1) K) (kf : ¬ P → Sp o y (pc + 3) l st h (some e2) K) : Sp o y pc l (.int z :: .int x :: st) h (some (if P then e1 else e2)) K := by
  rw [apply_ite some]
  exact Sp.if2 hf hq hh hP kt kf
theorem Sp.iteV {P : Prop} [Decidable P] {e1 e2 : ρ} (kt : P → Sp o y pc l st h (some e1) K) (kf : ¬ P → Sp o y pc l st h (some e2) K) : Sp o y pc l st h (some (if P then e1 else e2)) K := by
  rw [apply_ite some]
  exact Sp.ite kt kf
theorem Sp.boolV {b : Bool} {e1 e2 : ρ} (kt : b = true → Sp o y pc l (.int 1 :: st) h (some e1) K) (kf : b = false → Sp o y pc l (.int 0 :: st) h (some e2) K) : Sp o y pc l (.int (if b = true then 1 else 0) :: st) h (some (if b = true then e1 else e2)) K := by
  rw [apply_ite some]
  exact Sp.bool kt kf
theorem Sp.ocrV {u : Option Nat} {e0 : ρ} {e1 : Nat → ρ} (k0 : u = Option.none → Sp o y pc l (.null :: st) h (some e0) K) (k1 : ∀ a, u = some a → Sp o y pc l (.ref a :: st) h (some (e1 a)) K) : Sp o y pc l (va_rf u :: st) h (some (ocz u e0 e1)) K := by
  cases u with
  | none => exact k0 rfl
  | some a => exact k1 a rfl
end
/-! what a method comes to -/
def KQ (h : MjH) : SpK Int32 := fun v r h' => r = some (.int v) ∧ h' = h
def KB (h : MjH) : SpK Bool := fun b r h' => r = some (.int (if b = true then 1 else 0)) ∧ h' = h
def KU (h : MjH) : SpK Unit := fun _ r h' => r = none ∧ h' = h
def KEX (M : MS) : SpK (Int32 × XS) := fun p r h' => r = some (.int p.1) ∧ h' = hS p.2 M
def KBX (M : MS) : SpK (Bool × XS) := fun p r h' => r = some (.int (if p.1 = true then 1 else 0)) ∧ h' = hS p.2 M
def KVX (M : MS) : SpK XS := fun p r h' => r = none ∧ h' = hS p M
def KRX (M : MS) : SpK (Nat × XS) := fun p r h' => r = some (.ref p.1) ∧ h' = hS p.2 M
def KEM (X : XS) : SpK (Int32 × MS) := fun p r h' => r = some (.int p.1) ∧ h' = hS X p.2
def KBM (X : XS) : SpK (Bool × MS) := fun p r h' => r = some (.int (if p.1 = true then 1 else 0)) ∧ h' = hS X p.2
def KVM (X : XS) : SpK MS := fun p r h' => r = none ∧ h' = hS X p
theorem Sp.go {o : MjO} {y pc : Nat} {l : MjL} {st : List Value} {h : MjH} {ρ : Type} {e : Option ρ} {K : SpK ρ} (k : Sp o y pc l st h e K) {x : ρ} {r : Option Value} {h' : MjH} (he : e = some x) (hK : K x r h') : Go o y pc l st h r h' := k x he r h' hK
