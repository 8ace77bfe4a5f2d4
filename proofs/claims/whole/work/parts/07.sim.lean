/-! THE PICTURE AND THE REAL HEAP -/
def mjV (sz : Nat) (ol : Nat → Nat) : Value → Value
  | .ref r => .ref (sz + r)
  | .retAddr k => .ref (ol k)
  | v => v
def mjAr (sz : Nat) : ((Nat → Int32) ⊕ (Nat → Int64) ⊕ (Nat → UInt32) ⊕ (Nat → UInt64) ⊕ (Nat → Option Nat)) → ((Nat → Int32) ⊕ (Nat → Int64) ⊕ (Nat → UInt32) ⊕ (Nat → UInt64) ⊕ (Nat → Option Nat))
  | .inr (.inr (.inr (.inr f))) => .inr (.inr (.inr (.inr (fun j => (f j).map (fun a => sz + a)))))
  | a => a
def mjE (tc : Nat → ClassId) (sz : Nat) (ol : Nat → Nat) : MjC → va_E
  | .inl (t, n, a) => .inl (tc t, n, mjAr sz a)
  | .inr (c, fs) => .inr (c, fs.map (mjV sz ol))
def mjW (tc : Nat → ClassId) (sz : Nat) (ol : Nat → Nat) (h : MjH) : va_W := h.mapIdx (fun i c => (sz + i, mjE tc sz ol c))
theorem mjW_get {tc : Nat → ClassId} {sz : Nat} {ol : Nat → Nat} {h : MjH} {k : Nat} : (mjW tc sz ol h)[k]? = (h[k]?).map (fun c => (sz + k, mjE tc sz ol c)) := by
  simp [mjW, List.getElem?_mapIdx]
theorem mjW_at {tc : Nat → ClassId} {sz : Nat} {ol : Nat → Nat} {h : MjH} {k : Nat} {c : MjC} (hc : h[k]? = some c) : (mjW tc sz ol h)[k]? = some (sz + k, mjE tc sz ol c) := by
  rw [mjW_get, hc]; rfl
theorem mjW_set {tc : Nat → ClassId} {sz : Nat} {ol : Nat → Nat} {h : MjH} {k : Nat} {c : MjC} : mjW tc sz ol (h.set k c) = (mjW tc sz ol h).set k (sz + k, mjE tc sz ol c) := by
  apply List.ext_getElem?
  intro i
  rw [mjW_get, List.getElem?_set, List.getElem?_set, mjW_get]
  by_cases hi : k = i
  · subst hi
    have hl : (mjW tc sz ol h).length = h.length := by simp [mjW]
    by_cases hk : k < h.length
    · simp [hk, hl]
    · simp [hk, hl]
  · simp [hi]
theorem mjW_push {tc : Nat → ClassId} {sz : Nat} {ol : Nat → Nat} {h : MjH} {c : MjC} : mjW tc sz ol (h ++ [c]) = mjW tc sz ol h ++ [(sz + h.length, mjE tc sz ol c)] := by
  simp [mjW, List.mapIdx_append]
theorem mjW_D {tc : Nat → ClassId} {sz : Nat} {ol : Nat → Nat} {h : MjH} : va_D (fun q => sz ≤ q) (mjW tc sz ol h) := by
  refine ⟨fun i j p q hi hj hpq => ?_, fun k q hk => ?_⟩
  · rw [mjW_get] at hi hj
    obtain ⟨a, -, rfl⟩ := Option.map_eq_some_iff.mp hi
    obtain ⟨b, -, rfl⟩ := Option.map_eq_some_iff.mp hj
    simp at hpq
    exact hpq
  · rw [mjW_get] at hk
    obtain ⟨a, -, rfl⟩ := Option.map_eq_some_iff.mp hk
    exact Nat.le_add_right _ _
def mjTys (tc : Nat → ClassId) : List (ClassId × FieldType) := [(tc 0, .int), (tc 1, .boolean), (tc 2, .char), (tc 3, .object "PocketMachine$Routine"), (tc 4, .object "PocketMachine$Strand")]
def mjIsNest : Cond → Bool
  | .methodLinkNest _ _ _ _ => true
  | .fieldLinkNest _ _ _ _ _ _ => true
  | _ => false
def mjNest : List Cond := lw_tbl.filter mjIsNest
def MjTb (U : State) : Prop := (∀ w ∈ mjNest, va_Nw w U) ∧ va_AO "PocketMachine$Routine" U ∧ va_AO "PocketMachine$Strand" U
def MjOb (o : MjO) (ol : Nat → Nat) (sz : Nat) (U : State) (H : Heap) : Prop :=
  (∀ (k n : Nat) (f : Nat → Int32), o k = some (n, f) → va_T .int (ol k) n (fun j => .int (f j)) (fun q => sz ≤ q) U H) ∧
  (∀ (k : Nat) (q : String × String × String), mjOldN[k]? = some q → va_Z q.1 q.2.1 q.2.2 (.ref (ol (k + 1))) (fun q => sz ≤ q) U H)
def MjCx (p : Program) (s : State) (m : MethodId) (args : Array Value) (meth : Method) (c : Code) (cc : ByteArray) (own : String) (ini : Bool) (D : va_G) (tc : Nat → ClassId) (sz : Nat) (ol : Nat → Nat) (o : MjO) : Prop :=
  p.tables.exec = Jvm.exec ∧ c.code = cc ∧ s.vm.findClass own = some m.cls ∧ (∀ w ∈ mjG, w.before args s = true) ∧ va_K D vwCl (mjTys tc) s ∧ MjTb s ∧ MjOb o ol sz s s.heap ∧ sz ≤ s.heap.size ∧ (ini = true → meth.name = "<init>")
def MjSm (s : State) (D : va_G) (tc : Nat → ClassId) (sz : Nat) (ol : Nat → Nat) (h : MjH) (H : Heap) (locs : List Loc) : Prop :=
  H.size = sz + h.length ∧ va_P D vwCl (mjW tc sz ol h) H ∧ va_S (fun q => sz ≤ q) s.heap H locs
def MjLv (sz : Nat) (ol : Nat → Nat) (ml : MjL) (ls : Array Slot) : Prop :=
  ls.size = ml.length ∧ lv_wf ls ∧ ∀ (i : Nat) (v : Value), ml[i]? = some (some v) → v.category = 1 ∧ ls[i]? = some (.val (mjV sz ol v))
def mjSl : MjC → Nat
  | .inl (_, n, _) => n
  | .inr (_, fs) => fs.length
def mjSlots (h : MjH) : Nat := (h.map mjSl).sum
theorem mjV_cat (sz : Nat) (ol : Nat → Nat) (v : Value) : (mjV sz ol v).category = v.category := by cases v <;> rfl
theorem mjOne_cat {v : Value} (h : mjOne v = true) : v.category = 1 := by cases v <;> first | rfl | cases h
theorem mjA_cat {v : Value} (h : mjA v = true) : v.category = 1 := by cases v <;> first | rfl | cases h
/-- the known locals as the kit's list -/
def mjLl (sz : Nat) (ol : Nat → Nat) (ml : MjL) : List (Nat × Value) := (List.range ml.length).filterMap (fun i => ((ml[i]?).getD none).map (fun v => (i, mjV sz ol v)))
theorem MjLv.has {sz : Nat} {ol : Nat → Nat} {ml : MjL} {ls : Array Slot} (h : MjLv sz ol ml ls) : lv_has ls ml.length (mjLl sz ol ml) := by
  refine ⟨h.1, h.2.1, fun q hq => ?_⟩
  obtain ⟨i, hi, hv⟩ := List.mem_filterMap.mp hq
  cases hm : ml[i]? with
  | none => rw [hm] at hv; cases hv
  | some x => cases x with
    | none => rw [hm] at hv; cases hv
    | some v =>
      rw [hm] at hv
      cases hv
      exact (h.2.2 i v hm).2
theorem mjLl_mem {sz : Nat} {ol : Nat → Nat} {ml : MjL} {i : Nat} {v : Value} (h : ml[i]? = some (some v)) : (i, mjV sz ol v) ∈ mjLl sz ol ml := by
  refine List.mem_filterMap.mpr ⟨i, ?_, by rw [h]; rfl⟩
  exact List.mem_range.mpr (List.getElem?_eq_some_iff.mp h).1
theorem MjLv.store {sz : Nat} {ol : Nat → Nat} {ml : MjL} {ls ls' : Array Slot} {i : Nat} {v : Value} (h : MjLv sz ol ml ls) (hv : v.category = 1) (hi : i < ml.length)
    (hl : lv_has ls' ml.length ((i, mjV sz ol v) :: (mjLl sz ol ml).filter (fun q => !(q.1 == i) && !(q.1 + 1 == i && q.2.category == 2)))) : MjLv sz ol (ml.set i (some v)) ls' := by
  refine ⟨by rw [List.length_set]; exact hl.1, hl.2.1, fun j w hw => ?_⟩
  rw [List.getElem?_set] at hw
  by_cases hij : i = j
  · subst hij
    rw [if_pos rfl, if_pos hi] at hw
    cases hw
    exact ⟨hv, hl.2.2 _ List.mem_cons_self⟩
  · rw [if_neg hij] at hw
    refine ⟨(h.2.2 j w hw).1, hl.2.2 _ (List.mem_cons_of_mem _ (List.mem_filter.mpr ⟨mjLl_mem hw, ?_⟩))⟩
    have hc : (mjV sz ol w).category = 1 := by rw [mjV_cat]; exact (h.2.2 j w hw).1
    simp [hc, Ne.symm hij]
/-- what a kind of row promises -/
def MjSound (op : Nat) (hd : MjHd) : Prop := ∀ (p : Program) (l : Launch) (e : Env) (R : Room) (s : State) (m : MethodId) (args : Array Value) (below : List Frame) (meth : Method) (c : Code) (Q : State → Prop) (cc : ByteArray) (own : String) (ini : Bool) (D : va_G) (tc : Nat → ClassId) (sz : Nat) (ol : Nat → Nat) (o : MjO),
  MjCx p s m args meth c cc own ini D tc sz ol o → ∀ (q : MjIns) (pc : Nat) (ml : MjL) (st : List Value) (h : MjH) (r : Nat × MjL × List Value × MjH) (H : Heap) (locs : List Loc) (ls : Array Slot) (cells slots : Nat),
  q.1 = op → hd o q pc ml st h = some r → decode cc pc = .ok (mjEnc pc q) → mjOk own ini q = true → MjSm s D tc sz ol h H locs → MjLv sz ol ml ls → cells + (r.2.2.2.length - h.length) ≤ R.cells → slots + (mjSlots r.2.2.2 - mjSlots h) ≤ R.slots →
  (∀ (H' : Heap) (locs' : List Loc) (ls' : Array Slot), MjSm s D tc sz ol r.2.2.2 H' locs' → MjLv sz ol r.2.1 ls' → W p l e R s m args below meth c H' locs' (cells + (r.2.2.2.length - h.length)) (slots + (mjSlots r.2.2.2 - mjSlots h)) Q (F0 m r.1 ls' (r.2.2.1.map (mjV sz ol)))) →
  W p l e R s m args below meth c H locs cells slots Q (F0 m pc ls (st.map (mjV sz ol)))
/-- the heap never shrinks -/
def MjGrow (hd : MjHd) : Prop := ∀ (o : MjO) (q : MjIns) (pc : Nat) (ml : MjL) (st : List Value) (h : MjH) (r : Nat × MjL × List Value × MjH), hd o q pc ml st h = some r → h.length ≤ r.2.2.2.length ∧ mjSlots h ≤ mjSlots r.2.2.2
/-- a row that leaves the cells alone -/
def MjPure (op : Nat) (hd : MjHd) : Prop := ∀ (p : Program) (l : Launch) (e : Env) (R : Room) (s : State) (m : MethodId) (args : Array Value) (below : List Frame) (meth : Method) (c : Code) (Q : State → Prop) (cc : ByteArray) (own : String) (ini : Bool) (D : va_G) (tc : Nat → ClassId) (sz : Nat) (ol : Nat → Nat) (o : MjO),
  MjCx p s m args meth c cc own ini D tc sz ol o → ∀ (v : Int) (i j k : Nat) (sw : List (Int × Nat)) (pc : Nat) (ml : MjL) (st : List Value) (h : MjH) (r : Nat × MjL × List Value × MjH) (H : Heap) (locs : List Loc) (ls : Array Slot) (cells slots : Nat),
  hd o (op, v, i, j, k, sw) pc ml st h = some r → decode cc pc = .ok (mjEnc pc (op, v, i, j, k, sw)) → mjOk own ini (op, v, i, j, k, sw) = true → MjSm s D tc sz ol h H locs → MjLv sz ol ml ls →
  r.2.2.2 = h ∧ ((∀ ls' : Array Slot, MjLv sz ol r.2.1 ls' → W p l e R s m args below meth c H locs cells slots Q (F0 m r.1 ls' (r.2.2.1.map (mjV sz ol)))) → W p l e R s m args below meth c H locs cells slots Q (F0 m pc ls (st.map (mjV sz ol))))
theorem MjPure.sound {op : Nat} {hd : MjHd} (hp : MjPure op hd) : MjSound op hd := by
  intro p l e R s m args below meth c Q cc own ini D tc sz ol o C q pc ml st h r H locs ls cells slots hq hr hdg hok hS hL hc1 hc2 kk
  obtain ⟨op', v, i, j, k, sw⟩ := q
  obtain rfl : op' = op := hq
  obtain ⟨e1, k1⟩ := hp p l e R s m args below meth c Q cc own ini D tc sz ol o C v i j k sw pc ml st h r H locs ls cells slots hr hdg hok hS hL
  refine k1 fun ls' hl' => ?_
  have k2 := kk H locs ls' (by rw [e1]; exact hS) hl'
  rw [e1] at k2
  simpa using k2
