/-! A SMALL MACHINE over a picture of the cells: it runs the same code by plain functions; part 05 and on prove that the real one does what it does. A reference in the picture is a cell's number in the list; retAddr k stands for an array that was there before (0: the script, then the tables). -/
abbrev MjC : Type := (Nat × vp_A) ⊕ (Nat × List Value)
abbrev MjH : Type := List MjC
abbrev MjL : Type := List (Option Value)
abbrev MjO : Type := Nat → Option (Nat × (Nat → Int32))
abbrev MjR : Type := Option (Nat × MjL × List Value × MjH)
abbrev MjHd : Type := MjO → MjIns → Nat → MjL → List Value → MjH → MjR
-- what each kind of row does
def mjA : Value → Bool
  | .ref _ => true
  | .null => true
  | .retAddr _ => true
  | _ => false
def mjOne : Value → Bool
  | .long _ => false
  | .double _ => false
  | _ => true
/-- a value that its type holds as it is -/
def mjNar : FieldType → Value → Bool
  | .int, .int _ => true
  | .long, .long _ => true
  | .boolean, .int v => v == 0 || v == 1
  | .object _, .ref _ => true
  | .object _, .null => true
  | .array _, .ref _ => true
  | .array _, .null => true
  | _, _ => false
theorem mjNar_ok {ty : FieldType} {v : Value} (h : mjNar ty v = true) : narrow ty v = v ∧ fits ty v = true := by
  cases ty <;> cases v <;> first | exact ⟨rfl, rfl⟩ | (cases h; done) | skip
  rename_i v
  rcases Bool.or_eq_true_iff.mp (show (v == 0 || v == 1) = true from h) with q | q
  · rw [eq_of_beq q]; exact ⟨by decide, by decide⟩
  · rw [eq_of_beq q]; exact ⟨by decide, by decide⟩
def mjPush (n : Nat) : MjHd := fun _ q pc ml st h => some (pc + n, ml, .int (Int32.ofInt q.2.1) :: st, h)
def mjPushL : MjHd := fun _ q pc ml st h => some (pc + 1, ml, .long (Int64.ofNat q.2.2.1) :: st, h)
def mjILoad (n : Nat) : MjHd := fun _ q pc ml st h => match ml[q.2.2.1]? with
  | some (some (.int x)) => some (pc + n, ml, .int x :: st, h)
  | _ => none
def mjALoad (n : Nat) : MjHd := fun _ q pc ml st h => match ml[q.2.2.1]? with
  | some (some v) => if mjA v then some (pc + n, ml, v :: st, h) else none
  | _ => none
def mjIStore (n : Nat) : MjHd := fun _ q pc ml st h => match st with
  | .int x :: st => if q.2.2.1 < ml.length then some (pc + n, ml.set q.2.2.1 (some (.int x)), st, h) else none
  | _ => none
def mjAStore (n : Nat) : MjHd := fun _ q pc ml st h => match st with
  | v :: st => if mjA v ∧ q.2.2.1 < ml.length then some (pc + n, ml.set q.2.2.1 (some v), st, h) else none
  | _ => none
def mjInc : MjHd := fun _ q pc ml st h => match ml[q.2.2.1]? with
  | some (some (.int x)) => some (pc + 3, ml.set q.2.2.1 (some (.int (x + Int32.ofInt q.2.1))), st, h)
  | _ => none
def mjBin (f : Int32 → Int32 → Int32) : MjHd := fun _ _ pc ml st h => match st with
  | .int y :: .int x :: st => some (pc + 1, ml, .int (f x y) :: st, h)
  | _ => none
def mjDiv (f : Int32 → Int32 → Int32) : MjHd := fun _ _ pc ml st h => match st with
  | .int y :: .int x :: st => if y = 0 then none else some (pc + 1, ml, .int (f x y) :: st, h)
  | _ => none
def mjUn (f : Int32 → Int32) : MjHd := fun _ _ pc ml st h => match st with
  | .int x :: st => some (pc + 1, ml, .int (f x) :: st, h)
  | _ => none
def mjLAdd : MjHd := fun _ _ pc ml st h => match st with
  | .long y :: .long x :: st => some (pc + 1, ml, .long (x + y) :: st, h)
  | _ => none
def mjL2I : MjHd := fun _ _ pc ml st h => match st with
  | .long x :: st => some (pc + 1, ml, .int x.toInt32 :: st, h)
  | _ => none
def mjDup : MjHd := fun _ _ pc ml st h => match st with
  | v :: st => if mjOne v then some (pc + 1, ml, v :: v :: st, h) else none
  | _ => none
def mjPop : MjHd := fun _ _ pc ml st h => match st with
  | v :: st => if mjOne v then some (pc + 1, ml, st, h) else none
  | _ => none
def mjDupX1 : MjHd := fun _ _ pc ml st h => match st with
  | v :: w :: st => if mjOne v && mjOne w then some (pc + 1, ml, v :: w :: v :: st, h) else none
  | _ => none
def mjDup2 : MjHd := fun _ _ pc ml st h => match st with
  | v :: w :: st => if mjOne v && mjOne w then some (pc + 1, ml, v :: w :: v :: w :: st, h) else none
  | _ => none
def mjIf (f : Int32 → Bool) : MjHd := fun _ q pc ml st h => match st with
  | .int x :: st => some (if f x then q.2.2.1 else pc + 3, ml, st, h)
  | _ => none
def mjIf2 (f : Int32 → Int32 → Bool) : MjHd := fun _ q pc ml st h => match st with
  | .int y :: .int x :: st => some (if f x y then q.2.2.1 else pc + 3, ml, st, h)
  | _ => none
def mjGoto : MjHd := fun _ q _ ml st h => some (q.2.2.1, ml, st, h)
def mjIfN (z : Bool) : MjHd := fun _ q pc ml st h => match st with
  | .null :: st => some (if z then q.2.2.1 else pc + 3, ml, st, h)
  | .ref _ :: st => some (if z then pc + 3 else q.2.2.1, ml, st, h)
  | _ => none
def mjSw (x : Int32) (d : Nat) : List (Int × Nat) → Nat
  | [] => d
  | k :: r => if x = Int32.ofInt k.1 then k.2 else mjSw x d r
def mjSwitch : MjHd := fun _ q _ ml st h => match st with
  | .int x :: st => some (mjSw x q.2.2.1 q.2.2.2.2.2, ml, st, h)
  | _ => none
def mjGet : MjHd := fun _ q pc ml st h => match st with
  | .ref r :: st => match h[r]? with
    | some (.inr (c, fs)) => if c = q.2.2.2.1 then match fs[q.2.2.2.2.1]? with
        | some v => some (pc + 3, ml, v :: st, h)
        | none => none
      else none
    | _ => none
  | _ => none
def mjPut : MjHd := fun _ q pc ml st h => match st with
  | v :: .ref r :: st => match h[r]? with
    | some (.inr (c, fs)) => if c = q.2.2.2.1 ∧ q.2.2.2.2.1 < fs.length ∧ mjNar (mjTy c q.2.2.2.2.1) v = true then some (pc + 3, ml, st, h.set r (.inr (c, fs.set q.2.2.2.2.1 v))) else none
    | _ => none
  | _ => none
def mjLd (t : Nat) : MjHd := fun o _ pc ml st h => match st with
  | .int i :: .ref r :: st => match h[r]? with
    | some (.inl (t', n, .inl f)) => if t' = t ∧ ¬ (i < 0 ∨ n ≤ i.toNatClampNeg) then some (pc + 1, ml, .int (f i.toNatClampNeg) :: st, h) else none
    | _ => none
  | .int i :: .retAddr k :: st => match o k with
    | some (n, f) => if t = 0 ∧ ¬ (i < 0 ∨ n ≤ i.toNatClampNeg) then some (pc + 1, ml, .int (f i.toNatClampNeg) :: st, h) else none
    | _ => none
  | _ => none
def mjSt (t : Nat) (g : Int32 → Int32) : MjHd := fun _ _ pc ml st h => match st with
  | .int x :: .int i :: .ref r :: st => match h[r]? with
    | some (.inl (t', n, .inl f)) => if t' = t ∧ ¬ (i < 0 ∨ n ≤ i.toNatClampNeg) then some (pc + 1, ml, st, h.set r (.inl (t, n, .inl (upd f i.toNatClampNeg (g x))))) else none
    | _ => none
  | _ => none
def mjALd : MjHd := fun _ _ pc ml st h => match st with
  | .int i :: .ref r :: st => match h[r]? with
    | some (.inl (t', n, .inr (.inr (.inr (.inr f))))) => if (t' = 3 ∨ t' = 4) ∧ ¬ (i < 0 ∨ n ≤ i.toNatClampNeg) then some (pc + 1, ml, va_rf (f i.toNatClampNeg) :: st, h) else none
    | _ => none
  | _ => none
/-- the class of an array's places -/
def mjComp (t c : Nat) : Bool := decide (c < vwCl.length) && ((t == 3 && (mjCls c).1 == "PocketMachine$Routine") || (t == 4 && (mjCls c).1 == "PocketMachine$Strand"))
def mjASt : MjHd := fun _ _ pc ml st h => match st with
  | .ref v :: .int i :: .ref r :: st => match h[r]?, h[v]? with
    | some (.inl (t', n, .inr (.inr (.inr (.inr f))))), some (.inr (c, _)) => if mjComp t' c ∧ ¬ (i < 0 ∨ n ≤ i.toNatClampNeg) then some (pc + 1, ml, st, h.set r (.inl (t', n, .inr (.inr (.inr (.inr (va_up f i.toNatClampNeg (some v)))))))) else none
    | _, _ => none
  | _ => none
def mjLen : MjHd := fun o _ pc ml st h => match st with
  | .ref r :: st => match h[r]? with
    | some (.inl (t, n, _)) => if t < 5 then some (pc + 1, ml, .int (Int32.ofNat n) :: st, h) else none
    | _ => none
  | .retAddr k :: st => match o k with
    | some (n, _) => some (pc + 1, ml, .int (Int32.ofNat n) :: st, h)
    | _ => none
  | _ => none
def mjNewA : MjHd := fun _ q pc ml st h => match st with
  | .int n :: st => if n < 0 ∨ 100000 < n.toNatClampNeg then none else some (pc + 2, ml, .ref h.length :: st, h ++ [.inl (q.2.2.1, n.toNatClampNeg, .inl (fun _ => 0))])
  | _ => none
def mjNewQ : MjHd := fun _ q pc ml st h => match st with
  | .int n :: st => if n < 0 ∨ 100000 < n.toNatClampNeg then none else some (pc + 3, ml, .ref h.length :: st, h ++ [.inl (q.2.2.2.1, n.toNatClampNeg, .inr (.inr (.inr (.inr (fun _ => none)))))])
  | _ => none
def mjDef (j : Nat) : List Value := (List.range (mjCls j).2.2).map (fun k => defaultValue (mjTy j k))
def mjNewO : MjHd := fun _ q pc ml st h => some (pc + 3, ml, .ref h.length :: st, h ++ [.inr (q.2.2.2.1, mjDef q.2.2.2.1)])
def mjStatic : MjHd := fun _ q pc ml st h => some (pc + 3, ml, .retAddr q.2.2.2.1 :: st, h)
def mjNull : MjHd := fun _ _ pc ml st h => some (pc + 1, ml, .null :: st, h)
def mjSrc (o : MjO) (h : MjH) (t : Nat) : Value → Option (Nat × (Nat → Int32))
  | .ref r => match h[r]? with
    | some (.inl (t', n, .inl f)) => if t' = t then some (n, f) else none
    | _ => none
  | .retAddr k => if t = 0 then o k else none
  | _ => none
def mjCopy : MjHd := fun o _ pc ml st h => match st with
  | .int n :: .int dp :: .ref d :: .int sp :: sv :: st => match h[d]? with
    | some (.inl (t, n1, .inl g)) => match mjSrc o h t sv with
      | some (n0, f) => if (t = 0 ∨ t = 2 ∧ (List.range n.toNatClampNeg).all (fun i => fits .char (.int (f (sp.toNatClampNeg + i)))) = true) ∧ ¬ sp < 0 ∧ ¬ dp < 0 ∧ ¬ n < 0 ∧ sp.toNatClampNeg + n.toNatClampNeg ≤ n0 ∧ dp.toNatClampNeg + n.toNatClampNeg ≤ n1 then some (pc + 3, ml, st, h.set d (.inl (t, n1, .inl (va_cpy f g sp.toNatClampNeg dp.toNatClampNeg n.toNatClampNeg)))) else none
      | none => none
    | _ => none
  | _ => none
def mjMax : MjHd := fun _ _ pc ml st h => match st with
  | .int y :: .int x :: st => some (pc + 3, ml, .int (if x < y then y else x) :: st, h)
  | _ => none
def mjMin : MjHd := fun _ _ pc ml st h => match st with
  | .int y :: .int x :: st => some (pc + 3, ml, .int (if y < x then y else x) :: st, h)
  | _ => none
def mjNat (op : Nat) : Option MjHd := if op = 74 then some mjCopy else if op = 77 then some mjMax else if op = 78 then some mjMin else none
def mjHs : List MjHd := [
  mjPush 1, mjPush 2, mjPush 3, mjPush 2, mjPush 3, mjPushL, mjILoad 1, mjILoad 2, mjALoad 1, mjALoad 2, mjIStore 1, mjIStore 2, mjAStore 1, mjAStore 2, mjInc,
  mjBin (· + ·), mjBin (· - ·), mjBin (· * ·), mjDiv (· / ·), mjDiv (fun x y => x - x / y * y), mjUn (- ·), mjBin (· &&& ·), mjBin (· ||| ·), mjBin (· ^^^ ·), mjBin (fun x y => x <<< (y &&& 31)), mjBin (fun x y => x >>> (y &&& 31)), mjBin (fun x y => (x.toUInt32 >>> (y.toUInt32 &&& Int32.toUInt32 31)).toInt32),
  mjLAdd, mjL2I, mjUn (fun x => x.toInt8.toInt32), mjUn (fun x => x.toInt16.toInt32), mjUn (fun x => (x.toUInt32 % 65536).toInt32), mjDup, mjPop, mjDupX1, mjDup2,
  mjIf (fun x => decide (x = 0)), mjIf (fun x => decide (¬ x = 0)), mjIf (fun x => decide (x < 0)), mjIf (fun x => decide (0 ≤ x)), mjIf (fun x => decide (0 < x)), mjIf (fun x => decide (x ≤ 0)),
  mjIf2 (fun x y => decide (x = y)), mjIf2 (fun x y => decide (¬ x = y)), mjIf2 (fun x y => decide (x < y)), mjIf2 (fun x y => decide (y ≤ x)), mjIf2 (fun x y => decide (y < x)), mjIf2 (fun x y => decide (x ≤ y)),
  mjGoto, mjIfN true, mjIfN false, mjSwitch, mjSwitch, mjGet, mjPut, mjPut, mjLd 0, mjSt 0 id, mjLd 1, mjSt 1 (vp_nar .boolean), mjLd 2, mjSt 2 (vp_nar .char), mjALd, mjASt, mjLen, mjNewA, mjNewQ, mjNewO, mjStatic]
def mjHd (op : Nat) : Option MjHd := if op = 75 then some mjStatic else if op = 76 then some mjNull else mjHs[op]?
/-- the callee's locals and what stays on the stack; the room's numbers are looked at -/
def mjEnter (y z : Nat) (st : List Value) : Option (List Value × List Value) :=
  let n := (mjMeth z).2.2.2.2.1
  if n ≤ st.length ∧ (mjMeth z).2.2.2.2.2.2.1 + 1 ≤ (mjMeth y).2.2.2.2.2.2.1 ∧ 8 + ((mjMeth z).2.2.1 + 11) + (mjMeth z).2.2.2.2.2.2.2 ≤ (mjMeth y).2.2.2.2.2.2.2 ∧ n ≤ (mjMeth z).2.2.1 ∧ (st.all mjOne && decide (st.length ≤ n + 8)) = true then some ((st.take n).reverse, st.drop n) else none
def mjRecv (z k : Nat) (h : MjH) (vs : List Value) : Bool := if k = 1 ∨ k = 4 then true else match vs with
  | .ref r :: _ => match h[r]? with
    | some (.inr (c, _)) => decide (c < vwCl.length ∧ (mjCls c).1 = (mjMeth z).1.cls)
    | _ => false
  | _ => false
def mjRun (o : MjO) : Nat → Nat → Nat → MjL → List Value → MjH → Option (Option Value × MjH)
  | 0, _, _, _, _, _ => none
  | n + 1, y, pc, ml, st, h => match mjFetch y pc with
    | none => none
    | some q =>
      if q.1 = 69 then match mjEnter y q.2.2.2.1 st with
        | none => none
        | some (vs, rest) => if mjRecv q.2.2.2.1 q.2.2.2.2.1 h vs then match mjRun o n q.2.2.2.1 0 (vs.map some ++ List.replicate ((mjMeth q.2.2.2.1).2.2.1 - vs.length) none) [] h with
            | none => none
            | some (r, h') => mjRun o n y (pc + 3) ml (r.toList ++ rest) h'
          else none
      else if q.1 = 70 then match st with
        | .ref _ :: st => if 1 ≤ (mjMeth y).2.2.2.2.2.2.1 ∧ 20 ≤ (mjMeth y).2.2.2.2.2.2.2 ∧ (st.all mjOne && decide (st.length ≤ 8)) = true then mjRun o n y (pc + 3) ml st h else none
        | _ => none
      else if q.1 = 71 then match st, (mjMeth y).2.2.2.1 with
        | [.int v], some ty => if mjNar ty (.int v) = true then some (some (.int v), h) else none
        | _, _ => none
      else if q.1 = 72 then match st, (mjMeth y).2.2.2.1 with
        | [], none => some (none, h)
        | _, _ => none
      else if q.1 = 73 then match st, (mjMeth y).2.2.2.1 with
        | [v], some (.array _) => if mjA v then some (some v, h) else none
        | [v], some (.object _) => if mjA v then some (some v, h) else none
        | _, _ => none
      else match mjNat q.1 with
        | some hd => match hd o q pc ml st h with
          | none => none
          | some r => if 1 ≤ (mjMeth y).2.2.2.2.2.2.1 ∧ 26 ≤ (mjMeth y).2.2.2.2.2.2.2 ∧ (r.2.2.1.all mjOne && decide (r.2.2.1.length ≤ 8)) = true then mjRun o n y r.1 r.2.1 r.2.2.1 r.2.2.2 else none
        | none => match mjHd q.1 with
          | none => none
          | some hd => match hd o q pc ml st h with
            | none => none
            | some r => mjRun o n y r.1 r.2.1 r.2.2.1 r.2.2.2
