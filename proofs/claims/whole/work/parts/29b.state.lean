/-! THE STATE: the class's side X (numbers by cell and place, references by cell and place, shapes of the cells made later), the reference's side M (numbers, its count of steps) -/
def fxT : List (Nat × Nat) := [(16, 0), (13, 0), (3, 24), (0, 10), (0, 10), (0, 10), (0, 10), (0, 10), (0, 80), (0, 8), (8, 0), (1, 1440), (0, 24), (0, 61), (11, 0), (1, 10), (1, 10), (1, 24), (1, 24), (1, 8), (0, 10), (0, 24), (6, 0), (1, 60), (1, 60), (0, 60), (0, 600), (0, 720), (0, 10), (0, 12), (7, 0), (0, 64), (0, 24), (0, 8), (0, 10), (7, 0), (0, 64), (0, 24), (0, 8), (0, 10), (5, 0), (9, 0), (2, 0), (0, 0), (1, 0), (0, 10), (0, 10), (10, 0), (0, 100), (0, 300), (4, 6), (7, 0), (0, 64), (0, 24), (0, 8), (0, 10), (0, 8), (0, 8), (0, 8), (15, 0), (17, 0), (0, 10), (0, 10), (0, 10), (0, 24), (0, 24), (0, 24), (0, 24), (0, 24), (0, 24), (0, 24), (0, 1440), (0, 1440), (0, 24), (0, 576), (1, 24), (1, 10), (1, 10), (1, 8), (0, 24), (0, 10), (1, 60), (1, 60), (0, 60), (0, 600), (0, 720), (0, 16), (0, 12), (1, 1440), (0, 24), (0, 10), (0, 8000), (0, 8000), (0, 61), (0, 6000), (0, 20), (0, 20), (0, 20), (0, 160), (0, 48), (0, 48), (0, 48), (0, 48), (0, 2880), (0, 2880), (0, 48), (0, 1152), (0, 2), (0, 2880), (0, 6), (0, 6), (0, 6), (0, 120), (0, 120), (0, 120), (0, 2640), (1, 2640), (0, 8), (0, 8), (0, 100), (0, 300), (0, 1002), (0, 1002), (0, 1002), (0, 1002), (0, 1002), (1, 1002), (0, 8200), (0, 1002), (0, 1002)]
def fxPl : List (List (Option Nat)) := [[some 1, some 10, some 30, some 35, some 40, some 59], [some 2, none, none, some 3, some 4, some 5, some 6, some 7, some 8, some 9], [], [], [], [], [], [], [], [], [some 1, some 14, some 22, some 11, some 12, some 13], [], [], [], [none, none, some 1, some 15, some 16, some 17, some 18, some 19, some 20, some 21], [], [], [], [], [], [], [], [none, some 1, some 23, some 24, some 25, some 26, some 27, some 28, some 29, none, none], [], [], [], [], [], [], [], [none, none, none, some 32, some 33, some 34], [], [], [], [], [none, none, none, some 37, some 38, some 39], [], [], [], [], [none, none, none, some 41, some 47, some 50, some 51, some 56, some 57, some 58, none, none], [none, none, none, none, some 45, some 46, none, none, none], [], [], [], [], [], [none, none, none, some 48, some 49], [], [], [], [none, none, none, some 53, some 54, some 55], [], [], [], [], [], [], [], [none, some 40, none, none, none], [some 61, some 62, some 63, none, some 64, some 65, some 66, some 67, some 68, some 69, some 70, some 71, some 72, some 73, some 74, none, some 75, some 76, some 77, some 78, some 79, some 80, none, none, some 81, some 82, some 83, some 84, some 85, some 86, none, some 87, none, some 88, some 89, some 90, some 91, none, some 92, none, some 93, some 94, none, some 95, some 96, some 97, some 98, some 99, some 100, some 101, some 102, some 103, some 104, some 105, some 106, some 107, some 108, none, none, none, none, none, none, none, none, some 109, some 110, some 111, some 112, some 113, some 114, some 115, some 116, some 117, some 118, some 119, none, some 120, none, some 121, some 122, some 123, some 124, some 125, some 126, some 127, none, none, none, none, none, none, some 128, none, some 129, none], [], [], [], [], [], [], [], [], [], [], [], [], [], [], [], [], [], [], [], [], [], [], [], [], [], [], [], [], [], [], [], [], [], [], [], [], [], [], [], [], [], [], [], [], [], [], [], [], [], [], [], [], [], [], [], [], [], [], [], [], [], [], [], [], [], [], [], [], []]
def fkL : List (List Nat) := [[0, 0, 0, 1, 1, 1, 1, 1, 1, 1, 0, 0], [0, 1, 1, 1, 1, 1, 1, 1, 1, 0, 0], [0, 3, 1, 1, 1, 1], [1, 1, 1, 1, 1, 1], [0, 1, 1, 1, 1, 1, 0, 0, 0], [0, 0, 0, 1, 1], [0, 0, 1, 1, 1, 1, 1, 1, 1, 1], [0, 0, 0, 0, 0, 0, 0, 1, 1, 0, 1, 1, 1, 1], [1, 0, 0, 1, 1, 1, 1, 1, 1, 1], [0, 0, 0, 0, 0, 1, 1, 0, 0, 1, 1, 1], [0, 1, 0, 0, 0], [1, 1, 1, 1, 1, 1], [1, 1, 1, 0, 1, 1, 1, 1, 1, 1, 1, 1, 1, 1, 1, 0, 1, 1, 1, 1, 1, 1, 0, 0, 1, 1, 1, 1, 1, 1, 0, 1, 0, 1, 1, 1, 1, 0, 1, 0, 1, 1, 0, 1, 1, 1, 1, 1, 1, 1, 1, 1, 1, 1, 1, 1, 1, 0, 0, 0, 2, 0, 0, 0, 0, 1, 1, 1, 1, 1, 1, 1, 1, 1, 1, 1, 0, 1, 0, 1, 1, 1, 1, 1, 1, 1, 0, 0, 0, 0, 0, 0, 1, 0, 1, 0]]
def fxP (a f : Nat) : Option Nat := match fxPl[a]? with
  | some l => match l[f]? with
    | some r => r
    | none => none
  | none => none
def fk (c : Nat) : List Nat := match fkL[c]? with
  | some l => l
  | none => []
abbrev XS : Type := (Nat → Nat → Int32) × (Nat → Nat → Option Nat) × List (Nat × Nat)
abbrev MS : Type := (Nat → Nat → Int32) × Int64
def hW (X : XS) (M : MS) : Nat → Nat → Int32 := fun a => if 60 ≤ a ∧ a < 130 then M.1 a else X.1 a
def hP (X : XS) : Nat → Nat → Option Nat := fun a f => match fxP a f with
  | some r => some r
  | none => X.2.1 a f
def fxN (a : Nat) : Int32 := if a = 35 then 6000 else 5663
def mkF (W : Nat → Nat → Int32) (P : Nat → Nat → Option Nat) (dn : Int64) (a f k : Nat) : Value := if k = 0 then .int (W a f) else if k = 1 then va_rf (P a f) else if k = 2 then .long (if a = 60 then dn else 0) else .int (fxN a)
def mkC (W : Nat → Nat → Int32) (P : Nat → Nat → Option Nat) (dn : Int64) (a : Nat) (q : Nat × Nat) : MjC := if q.1 < 3 then .inl (q.1, q.2, .inl (W a)) else if q.1 < 5 then .inl (q.1, q.2, .inr (.inr (.inr (.inr (P a))))) else .inr (q.1 - 5, (fk (q.1 - 5)).mapIdx (mkF W P dn a))
def hT (X : XS) : List (Nat × Nat) := fxT ++ X.2.2
def hS (X : XS) (M : MS) : MjH := (hT X).mapIdx (mkC (hW X M) (hP X) M.2)
/-- the shape of a cell of the class's side -/
def xT (X : XS) (a : Nat) : Option (Nat × Nat) := if 60 ≤ a ∧ a < 130 then none else (hT X)[a]?
/-- the length of a row of this kind -/
def xL (X : XS) (t a : Nat) : Option Nat := match xT X a with
  | some q => if q.1 = t then some q.2 else none
  | none => none
def xA (X : XS) : Nat := 130 + X.2.2.length
def xw (X : XS) (a i : Nat) (v : Int32) : XS := (fun b => if b = a then upd (X.1 a) i v else X.1 b, X.2)
def xp (X : XS) (a i : Nat) (v : Option Nat) : XS := (X.1, fun b => if b = a then va_up (X.2.1 a) i v else X.2.1 b, X.2.2)
def xn (X : XS) (t n : Nat) : XS := (fun b => if b = xA X then fun _ => 0 else X.1 b, fun b => if b = xA X then fun _ => none else X.2.1 b, X.2.2 ++ [(t, n)])
def xc (X : XS) (f : Nat → Int32) (d sp dp n : Nat) : XS := (fun b => if b = d then va_cpy f (X.1 d) sp dp n else X.1 b, X.2)
def mw (M : MS) (a i : Nat) (v : Int32) : MS := (fun b => if b = a then upd (M.1 a) i v else M.1 b, M.2)
def mlg (M : MS) (v : Int64) : MS := (M.1, v)
abbrev ixo (i : Int32) (n : Nat) : Prop := ¬ (i < 0 ∨ n ≤ i.toNatClampNeg)
abbrev cpo (sp dp n : Int32) (n0 n1 : Nat) : Prop := ¬ sp < 0 ∧ ¬ dp < 0 ∧ ¬ n < 0 ∧ sp.toNatClampNeg + n.toNatClampNeg ≤ n0 ∧ dp.toNatClampNeg + n.toNatClampNeg ≤ n1
def oT (k i : Nat) : Int32 := match mjOldT[k - 1]? with
  | some q => q.2.2.getD i 0
  | none => 0
def ocz {α β : Type} (o : Option α) (e : β) (f : α → β) : β := match o with
  | none => e
  | some a => f a
abbrev lt {α β : Type} (a : α) (f : α → β) : β := f a
/-- a loop, at most so many rounds -/
def lp {α ρ : Type} (body : α → Option (α ⊕ ρ)) : Nat → α → Option ρ
  | 0, _ => none
  | n + 1, x => match body x with
    | none => none
    | some (.inl x) => lp body n x
    | some (.inr r) => some r
theorem mkC_congr {W W' : Nat → Nat → Int32} {P P' : Nat → Nat → Option Nat} {dn : Int64} {a : Nat} {q : Nat × Nat} (hw : W a = W' a) (hp : P a = P' a) : mkC W P dn a q = mkC W' P' dn a q := by
  have e : mkF W P dn a = mkF W' P' dn a := by
    funext f k
    unfold mkF
    rw [hw, hp]
  unfold mkC
  rw [hw, hp, e]
theorem hS_get {X : XS} {M : MS} (a : Nat) : (hS X M)[a]? = ((hT X)[a]?).map (mkC (hW X M) (hP X) M.2 a) := List.getElem?_mapIdx
theorem hS_len {X : XS} {M : MS} : (hS X M).length = xA X := by
  unfold hS hT xA
  rw [List.length_mapIdx, List.length_append]
  rfl
theorem xT_ok {X : XS} {a : Nat} {q : Nat × Nat} (h : xT X a = some q) : (hT X)[a]? = some q ∧ ¬ (60 ≤ a ∧ a < 130) := by
  unfold xT at h
  split at h
  · cases h
  · rename_i e
    exact ⟨h, e⟩
theorem hW_x {X : XS} {M : MS} {a : Nat} (h : ¬ (60 ≤ a ∧ a < 130)) : hW X M a = X.1 a := if_neg h
theorem hW_m {X : XS} {M : MS} {a : Nat} (h : 60 ≤ a ∧ a < 130) : hW X M a = M.1 a := if_pos h
theorem xo {X : XS} {M : MS} {a c n : Nat} (h : xT X a = some (5 + c, n)) : (hS X M)[a]? = some (.inr (c, (fk c).mapIdx (mkF (hW X M) (hP X) M.2 a))) := by
  rw [hS_get, (xT_ok h).1]
  unfold mkC
  simp only [Option.map_some]
  rw [if_neg (by omega), if_neg (by omega), Nat.add_sub_cancel_left]
theorem xar {X : XS} {M : MS} {a t n : Nat} (h : xT X a = some (t, n)) (h3 : t < 3) : (hS X M)[a]? = some (.inl (t, n, .inl (X.1 a))) := by
  rw [hS_get, (xT_ok h).1]
  unfold mkC
  simp only [Option.map_some]
  rw [if_pos h3, hW_x (xT_ok h).2]
theorem xrr {X : XS} {M : MS} {a t n : Nat} (h : xT X a = some (t, n)) (h3 : ¬ t < 3 ∧ t < 5) (hp : ∀ f, fxP a f = none) : (hS X M)[a]? = some (.inl (t, n, .inr (.inr (.inr (.inr (X.2.1 a)))))) := by
  have e : hP X a = X.2.1 a := by
    funext f
    unfold hP
    rw [hp f]
  rw [hS_get, (xT_ok h).1]
  unfold mkC
  simp only [Option.map_some]
  rw [if_neg h3.1, if_pos h3.2, e]
theorem mo {X : XS} {M : MS} {a c n : Nat} (h : fxT[a]? = some (5 + c, n)) : (hS X M)[a]? = some (.inr (c, (fk c).mapIdx (mkF (hW X M) (hP X) M.2 a))) := by
  have hl := (List.getElem?_eq_some_iff.mp h).1
  rw [hS_get]
  unfold hT
  rw [List.getElem?_append_left hl, h]
  unfold mkC
  simp only [Option.map_some]
  rw [if_neg (by omega), if_neg (by omega), Nat.add_sub_cancel_left]
theorem mar {X : XS} {M : MS} {a t n : Nat} (h : fxT[a]? = some (t, n)) (hr : 60 ≤ a ∧ a < 130) (h3 : t < 3) : (hS X M)[a]? = some (.inl (t, n, .inl (M.1 a))) := by
  have hl := (List.getElem?_eq_some_iff.mp h).1
  rw [hS_get]
  unfold hT
  rw [List.getElem?_append_left hl, h]
  unfold mkC
  simp only [Option.map_some]
  rw [if_pos h3, hW_m hr]
theorem flds_get {W : Nat → Nat → Int32} {P : Nat → Nat → Option Nat} {dn : Int64} {a c f k : Nat} (hk : (fk c)[f]? = some k) : ((fk c).mapIdx (mkF W P dn a))[f]? = some (mkF W P dn a f k) := by
  rw [List.getElem?_mapIdx, hk]
  rfl
theorem flds_set {W W' : Nat → Nat → Int32} {P P' : Nat → Nat → Option Nat} {dn dn' : Int64} {a c f k : Nat} {v : Value} (hk : (fk c)[f]? = some k) (hv : mkF W' P' dn' a f k = v) (ho : ∀ g kk, (fk c)[g]? = some kk → g ≠ f → mkF W' P' dn' a g kk = mkF W P dn a g kk) : ((fk c).mapIdx (mkF W P dn a)).set f v = (fk c).mapIdx (mkF W' P' dn' a) := by
  apply List.ext_getElem?
  intro g
  rw [List.getElem?_set, List.getElem?_mapIdx, List.getElem?_mapIdx]
  by_cases e : f = g
  · subst e
    rw [if_pos rfl, if_pos (by rw [List.length_mapIdx]; exact (List.getElem?_eq_some_iff.mp hk).1), hk, ← hv]
    rfl
  · rw [if_neg e]
    cases hg : (fk c)[g]? with
    | none => rfl
    | some kk => exact congrArg some (ho g kk hg (fun x => e x.symm)).symm
/-- one cell is another one -/
theorem hS_set {X X' : XS} {M M' : MS} {a : Nat} {q : Nat × Nat} {c : MjC} (hT' : hT X' = hT X) (hq : (hT X)[a]? = some q) (hc : mkC (hW X' M') (hP X') M'.2 a q = c) (ho : ∀ b r, b ≠ a → (hT X)[b]? = some r → mkC (hW X' M') (hP X') M'.2 b r = mkC (hW X M) (hP X) M.2 b r) : (hS X M).set a c = hS X' M' := by
  apply List.ext_getElem?
  intro b
  rw [List.getElem?_set, hS_get, hS_get, hT']
  by_cases e : a = b
  · subst e
    rw [if_pos rfl, if_pos (by rw [hS_len]; have := (List.getElem?_eq_some_iff.mp hq).1; unfold hT at this; rw [List.length_append] at this; exact this), hq, ← hc]
    rfl
  · rw [if_neg e]
    cases hb : (hT X)[b]? with
    | none => rfl
    | some r => exact congrArg some (ho b r (fun x => e x.symm) hb).symm
theorem hW_xw {X : XS} {M : MS} {a i b : Nat} {v : Int32} (hb : b ≠ a) : hW (xw X a i v) M b = hW X M b := by
  unfold hW xw
  simp only [if_neg hb]
theorem hP_xw {X : XS} {a i : Nat} {v : Int32} : hP (xw X a i v) = hP X := rfl
theorem hW_xw_self {X : XS} {M : MS} {a i : Nat} {v : Int32} (ha : ¬ (60 ≤ a ∧ a < 130)) : hW (xw X a i v) M a = upd (X.1 a) i v := by
  unfold hW xw
  simp only [if_neg ha, if_true]
theorem hS_xwF {X : XS} {M : MS} {a c f n : Nat} {v : Int32} (h : xT X a = some (5 + c, n)) (hk : (fk c)[f]? = some 0) : (hS X M).set a (.inr (c, ((fk c).mapIdx (mkF (hW X M) (hP X) M.2 a)).set f (.int v))) = hS (xw X a f v) M := by
  refine hS_set (q := (5 + c, n)) rfl (xT_ok h).1 ?_ (fun b r hb _ => mkC_congr (hW_xw hb) rfl)
  unfold mkC
  rw [if_neg (show ¬ 5 + c < 3 by omega), if_neg (show ¬ 5 + c < 5 by omega)]
  simp only [Nat.add_sub_cancel_left]
  refine congrArg (fun z => Sum.inr (c, z)) (flds_set hk ?_ ?_).symm
  · unfold mkF
    rw [if_pos rfl, hW_xw_self (xT_ok h).2]
    exact congrArg Value.int (if_pos rfl)
  · intro g kk _ hg
    unfold mkF
    rw [hW_xw_self (xT_ok h).2, hW_x (xT_ok h).2]
    unfold upd
    rw [if_neg hg]
    rfl
theorem hS_xwA {X : XS} {M : MS} {a t n i : Nat} {v : Int32} (h : xT X a = some (t, n)) (h3 : t < 3) : (hS X M).set a (.inl (t, n, .inl (upd (X.1 a) i v))) = hS (xw X a i v) M := by
  refine hS_set (q := (t, n)) rfl (xT_ok h).1 ?_ (fun b r hb _ => mkC_congr (hW_xw hb) rfl)
  unfold mkC
  rw [if_pos h3, hW_xw_self (xT_ok h).2]
theorem hS_xc {X : XS} {M : MS} {a t n sp dp k : Nat} {f : Nat → Int32} (h : xT X a = some (t, n)) (h3 : t < 3) : (hS X M).set a (.inl (t, n, .inl (va_cpy f (X.1 a) sp dp k))) = hS (xc X f a sp dp k) M := by
  refine hS_set (q := (t, n)) rfl (xT_ok h).1 ?_ (fun b r hb _ => mkC_congr ?_ rfl)
  · unfold mkC
    rw [if_pos h3]
    unfold hW xc
    simp only [if_neg (xT_ok h).2, if_true]
  · unfold hW xc
    simp only [if_neg hb]
theorem hP_xp {X : XS} {a i b : Nat} {v : Option Nat} (hb : b ≠ a) : hP (xp X a i v) b = hP X b := by
  unfold hP xp
  simp only [if_neg hb]
theorem hS_xpF {X : XS} {M : MS} {a c f n : Nat} {v : Nat} (h : xT X a = some (5 + c, n)) (hk : (fk c)[f]? = some 1) (hp : fxP a f = none) : (hS X M).set a (.inr (c, ((fk c).mapIdx (mkF (hW X M) (hP X) M.2 a)).set f (.ref v))) = hS (xp X a f (some v)) M := by
  refine hS_set (q := (5 + c, n)) rfl (xT_ok h).1 ?_ (fun b r hb _ => mkC_congr rfl (hP_xp hb))
  unfold mkC
  rw [if_neg (show ¬ 5 + c < 3 by omega), if_neg (show ¬ 5 + c < 5 by omega)]
  simp only [Nat.add_sub_cancel_left]
  refine congrArg (fun z => Sum.inr (c, z)) (flds_set hk ?_ ?_).symm
  · unfold mkF hP xp va_up
    rw [if_neg (by decide), if_pos rfl, hp]
    simp only [if_true]
    rfl
  · intro g kk _ hg
    unfold mkF hP xp va_up
    simp only [if_true, if_neg hg]
    rfl
theorem hS_xpA {X : XS} {M : MS} {a t n i : Nat} {v : Nat} (h : xT X a = some (t, n)) (h3 : ¬ t < 3 ∧ t < 5) (hp : ∀ f, fxP a f = none) : (hS X M).set a (.inl (t, n, .inr (.inr (.inr (.inr (va_up (X.2.1 a) i (some v))))))) = hS (xp X a i (some v)) M := by
  refine hS_set (q := (t, n)) rfl (xT_ok h).1 ?_ (fun b r hb _ => mkC_congr rfl (hP_xp hb))
  unfold mkC
  rw [if_neg h3.1, if_pos h3.2]
  have e : hP (xp X a i (some v)) a = va_up (X.2.1 a) i (some v) := by
    funext f
    unfold hP xp
    rw [hp f]
    simp only [if_true]
  rw [e]
set_option maxRecDepth 100000 in
theorem fxPl_len : fxPl.length = 130 := rfl
set_option maxRecDepth 100000 in
theorem fxT_len : fxT.length = 130 := rfl
theorem fxP_big {a f : Nat} (h : 130 ≤ a) : fxP a f = none := by
  unfold fxP
  rw [List.getElem?_eq_none (by rw [fxPl_len]; exact h)]
theorem xA_ge (X : XS) : 130 ≤ xA X := Nat.le_add_right _ _
theorem hS_app {X : XS} {M : MS} {t n : Nat} {c : MjC} (hc : mkC (fun _ _ => 0) (fun _ _ => none) M.2 (xA X) (t, n) = c) : hS X M ++ [c] = hS (xn X t n) M := by
  have hl : (hT X).length = xA X := by unfold hT; rw [List.length_append, fxT_len]; rfl
  apply List.ext_getElem?
  intro b
  rw [hS_get]
  have e1 : hT (xn X t n) = hT X ++ [(t, n)] := by unfold hT xn; rw [List.append_assoc]
  rw [e1, List.getElem?_append, List.getElem?_append, hS_len, hl]
  by_cases hb : b < xA X
  · rw [if_pos hb, if_pos hb, hS_get]
    cases (hT X)[b]? with
    | none => rfl
    | some r =>
      refine congrArg some (mkC_congr ?_ ?_).symm
      · unfold hW xn
        simp only [if_neg (show ¬ b = xA X by omega)]
      · unfold hP xn
        simp only [if_neg (show ¬ b = xA X by omega)]
  · rw [if_neg hb, if_neg hb]
    by_cases e : b = xA X
    · subst e
      rw [Nat.sub_self]
      refine congrArg some ?_
      rw [← hc]
      refine (mkC_congr ?_ ?_).symm
      · unfold hW xn
        have := xA_ge X
        rw [if_neg (by omega)]
        exact if_pos rfl
      · funext f
        unfold hP xn
        rw [fxP_big (xA_ge X)]
        simp only [if_true]
    · rw [List.getElem?_eq_none (show [c].length ≤ b - xA X by simp only [List.length_cons, List.length_nil]; omega), List.getElem?_eq_none (show [(t, n)].length ≤ b - xA X by simp only [List.length_cons, List.length_nil]; omega)]
      rfl
theorem hW_mw {X : XS} {M : MS} {a i b : Nat} {v : Int32} (hb : b ≠ a) : hW X (mw M a i v) b = hW X M b := by
  unfold hW mw
  simp only [if_neg hb]
theorem hW_mw_self {X : XS} {M : MS} {a i : Nat} {v : Int32} (ha : 60 ≤ a ∧ a < 130) : hW X (mw M a i v) a = upd (M.1 a) i v := by
  unfold hW mw
  simp only [if_pos ha, if_true]
theorem hT_fx {X : XS} {a : Nat} {q : Nat × Nat} (h : fxT[a]? = some q) : (hT X)[a]? = some q := by
  unfold hT
  rw [List.getElem?_append_left (List.getElem?_eq_some_iff.mp h).1, h]
theorem hS_mwF {X : XS} {M : MS} {a c f n : Nat} {v : Int32} (h : fxT[a]? = some (5 + c, n)) (hr : 60 ≤ a ∧ a < 130) (hk : (fk c)[f]? = some 0) : (hS X M).set a (.inr (c, ((fk c).mapIdx (mkF (hW X M) (hP X) M.2 a)).set f (.int v))) = hS X (mw M a f v) := by
  refine hS_set (q := (5 + c, n)) rfl (hT_fx h) ?_ (fun b r hb _ => mkC_congr (hW_mw hb) rfl)
  unfold mkC
  rw [if_neg (show ¬ 5 + c < 3 by omega), if_neg (show ¬ 5 + c < 5 by omega)]
  simp only [Nat.add_sub_cancel_left]
  refine congrArg (fun z => Sum.inr (c, z)) (flds_set hk ?_ ?_).symm
  · unfold mkF
    rw [if_pos rfl, hW_mw_self hr]
    exact congrArg Value.int (if_pos rfl)
  · intro g kk _ hg
    unfold mkF
    rw [hW_mw_self hr, hW_m hr]
    unfold upd
    rw [if_neg hg]
    rfl
theorem hS_mwA {X : XS} {M : MS} {a t n i : Nat} {v : Int32} (h : fxT[a]? = some (t, n)) (hr : 60 ≤ a ∧ a < 130) (h3 : t < 3) : (hS X M).set a (.inl (t, n, .inl (upd (M.1 a) i v))) = hS X (mw M a i v) := by
  refine hS_set (q := (t, n)) rfl (hT_fx h) ?_ (fun b r hb _ => mkC_congr (hW_mw hb) rfl)
  unfold mkC
  rw [if_pos h3, hW_mw_self hr]
theorem hS_ml {X : XS} {M : MS} {v : Int64} : (hS X M).set 60 (.inr (12, ((fk 12).mapIdx (mkF (hW X M) (hP X) M.2 60)).set 60 (.long v))) = hS X (mlg M v) := by
  refine hS_set (q := (5 + 12, 0)) rfl (hT_fx rfl) ?_ ?_
  · unfold mkC
    rw [if_neg (show ¬ 5 + 12 < 3 by omega), if_neg (show ¬ 5 + 12 < 5 by omega)]
    simp only [Nat.add_sub_cancel_left]
    refine congrArg (fun z => Sum.inr (12, z)) (flds_set (k := 2) rfl rfl ?_).symm
    intro g kk hkk hg
    have hkk2 : kk ≠ 2 := by
      intro e
      subst e
      have hl := (List.getElem?_eq_some_iff.mp hkk).1
      have hl : g < 96 := hl
      have := (show ∀ g : Fin 96, (fk 12)[g.1]? = some 2 → g.1 = 60 by decide) ⟨g, hl⟩ hkk
      exact hg this
    unfold mkF
    simp only [if_neg hkk2]
    rfl
  · intro b r hb hbr
    have e : mkF (hW X (mlg M v)) (hP X) (mlg M v).2 b = mkF (hW X M) (hP X) M.2 b := by
      funext f k
      unfold mkF
      simp only [if_neg hb]
      rfl
    unfold mkC
    rw [e]
    rfl
/-! what the rows of the small machine do there -/
theorem xg_I {X : XS} {M : MS} {o : MjO} {q : MjIns} {pc : Nat} {l : MjL} {st : List Value} {a c f n : Nat} (hc : q.2.2.2.1 = c) (hf : q.2.2.2.2.1 = f) (ht : xT X a = some (5 + c, n)) (hk : (fk c)[f]? = some 0) : mjGet o q pc l (.ref a :: st) (hS X M) = some (pc + 3, l, .int (X.1 a f) :: st, hS X M) := by
  rw [go_get (xo ht) hc.symm (by rw [hf]; exact flds_get hk)]
  unfold mkF
  rw [if_pos rfl, hW_x (xT_ok ht).2]
theorem xg_N {X : XS} {M : MS} {o : MjO} {q : MjIns} {pc : Nat} {l : MjL} {st : List Value} {a c f n : Nat} (hc : q.2.2.2.1 = c) (hf : q.2.2.2.2.1 = f) (ht : xT X a = some (5 + c, n)) (hk : (fk c)[f]? = some 3) : mjGet o q pc l (.ref a :: st) (hS X M) = some (pc + 3, l, .int (fxN a) :: st, hS X M) := by
  rw [go_get (xo ht) hc.symm (by rw [hf]; exact flds_get hk)]
  rfl
theorem xg_F {X : XS} {M : MS} {o : MjO} {q : MjIns} {pc : Nat} {l : MjL} {st : List Value} {a c f n r : Nat} (hc : q.2.2.2.1 = c) (hf : q.2.2.2.2.1 = f) (ht : xT X a = some (5 + c, n)) (hk : (fk c)[f]? = some 1) (hr : fxP a f = some r) : mjGet o q pc l (.ref a :: st) (hS X M) = some (pc + 3, l, .ref r :: st, hS X M) := by
  rw [go_get (xo ht) hc.symm (by rw [hf]; exact flds_get hk)]
  unfold mkF hP
  rw [hr]
  rfl
theorem xg_D {X : XS} {M : MS} {o : MjO} {q : MjIns} {pc : Nat} {l : MjL} {st : List Value} {a c f n : Nat} (hc : q.2.2.2.1 = c) (hf : q.2.2.2.2.1 = f) (ht : xT X a = some (5 + c, n)) (hk : (fk c)[f]? = some 1) (hr : fxP a f = none) : mjGet o q pc l (.ref a :: st) (hS X M) = some (pc + 3, l, va_rf (X.2.1 a f) :: st, hS X M) := by
  rw [go_get (xo ht) hc.symm (by rw [hf]; exact flds_get hk)]
  unfold mkF hP
  rw [hr]
  rfl
theorem xp_I {X : XS} {M : MS} {o : MjO} {q : MjIns} {pc : Nat} {l : MjL} {st : List Value} {a c f n : Nat} {v : Int32} (hc : q.2.2.2.1 = c) (hf : q.2.2.2.2.1 = f) (ht : xT X a = some (5 + c, n)) (hk : (fk c)[f]? = some 0) (hn : mjNar (mjTy c f) (.int v) = true) : mjPut o q pc l (.int v :: .ref a :: st) (hS X M) = some (pc + 3, l, st, hS (xw X a f v) M) := by
  subst hc
  subst hf
  rw [go_put (xo ht) ⟨rfl, by rw [List.length_mapIdx]; exact (List.getElem?_eq_some_iff.mp hk).1, hn⟩, hS_xwF ht hk]
theorem xp_R {X : XS} {M : MS} {o : MjO} {q : MjIns} {pc : Nat} {l : MjL} {st : List Value} {a c f n v : Nat} (hc : q.2.2.2.1 = c) (hf : q.2.2.2.2.1 = f) (ht : xT X a = some (5 + c, n)) (hk : (fk c)[f]? = some 1) (hr : fxP a f = none) (hn : mjNar (mjTy c f) (.ref v) = true) : mjPut o q pc l (.ref v :: .ref a :: st) (hS X M) = some (pc + 3, l, st, hS (xp X a f (some v)) M) := by
  subst hc
  subst hf
  rw [go_put (xo ht) ⟨rfl, by rw [List.length_mapIdx]; exact (List.getElem?_eq_some_iff.mp hk).1, hn⟩, hS_xpF ht hk hr]
theorem xld {X : XS} {M : MS} {o : MjO} {q : MjIns} {pc t : Nat} {l : MjL} {st : List Value} {a n : Nat} {i : Int32} (ht : xT X a = some (t, n)) (h3 : t < 3) (hi : ixo i n) : mjLd t o q pc l (.int i :: .ref a :: st) (hS X M) = some (pc + 1, l, .int (X.1 a i.toNatClampNeg) :: st, hS X M) := go_ld (xar ht h3) hi
theorem xst {X : XS} {M : MS} {o : MjO} {q : MjIns} {pc t : Nat} {g : Int32 → Int32} {l : MjL} {st : List Value} {a n : Nat} {i v : Int32} (ht : xT X a = some (t, n)) (h3 : t < 3) (hi : ixo i n) : mjSt t g o q pc l (.int v :: .int i :: .ref a :: st) (hS X M) = some (pc + 1, l, st, hS (xw X a i.toNatClampNeg (g v)) M) := by
  rw [go_st (xar ht h3) hi, hS_xwA ht h3]
theorem xald {X : XS} {M : MS} {o : MjO} {q : MjIns} {pc t : Nat} {l : MjL} {st : List Value} {a n : Nat} {i : Int32} (ht : xT X a = some (t, n)) (h3 : t = 3 ∨ t = 4) (hp : ∀ f, fxP a f = none) (hi : ixo i n) : mjALd o q pc l (.int i :: .ref a :: st) (hS X M) = some (pc + 1, l, va_rf (X.2.1 a i.toNatClampNeg) :: st, hS X M) := by
  unfold mjALd
  dsimp only
  rw [xrr ht (by omega) hp]
  dsimp only
  rw [if_pos ⟨h3, hi⟩]
theorem xast {X : XS} {M : MS} {o : MjO} {q : MjIns} {pc t : Nat} {l : MjL} {st : List Value} {a n v c k : Nat} {i : Int32} (ht : xT X a = some (t, n)) (h3 : ¬ t < 3 ∧ t < 5) (hp : ∀ f, fxP a f = none) (hi : ixo i n) (hv : xT X v = some (5 + c, k)) (hc : mjComp t c = true) : mjASt o q pc l (.ref v :: .int i :: .ref a :: st) (hS X M) = some (pc + 1, l, st, hS (xp X a i.toNatClampNeg (some v)) M) := by
  unfold mjASt
  dsimp only
  rw [xrr ht h3 hp, xo hv]
  dsimp only
  rw [if_pos ⟨hc, hi⟩, hS_xpA ht h3 hp]
theorem xlen {X : XS} {M : MS} {o : MjO} {q : MjIns} {pc t : Nat} {l : MjL} {st : List Value} {a n : Nat} (ht : xT X a = some (t, n)) (h3 : t < 3) : mjLen o q pc l (.ref a :: st) (hS X M) = some (pc + 1, l, .int (Int32.ofNat n) :: st, hS X M) := by
  unfold mjLen
  dsimp only
  rw [xar ht h3]
  dsimp only
  rw [if_pos (by omega)]
theorem xnewA {X : XS} {M : MS} {o : MjO} {q : MjIns} {pc t : Nat} {l : MjL} {st : List Value} {n : Int32} (hq : q.2.2.1 = t) (h3 : t < 3) (hn : ¬ (n < 0 ∨ 100000 < n.toNatClampNeg)) : mjNewA o q pc l (.int n :: st) (hS X M) = some (pc + 2, l, .ref (xA X) :: st, hS (xn X t n.toNatClampNeg) M) := by
  subst hq
  unfold mjNewA
  dsimp only
  rw [if_neg hn, hS_len, hS_app]
  unfold mkC
  rw [if_pos h3]
theorem xnewO {X : XS} {M : MS} {o : MjO} {q : MjIns} {pc c : Nat} {l : MjL} {st : List Value} (hq : q.2.2.2.1 = c) (hd : ∀ a, (fk c).mapIdx (mkF (fun _ _ => 0) (fun _ _ => none) M.2 a) = mjDef c) : mjNewO o q pc l st (hS X M) = some (pc + 3, l, .ref (xA X) :: st, hS (xn X (5 + c) 0) M) := by
  subst hq
  unfold mjNewO
  rw [hS_len, hS_app]
  unfold mkC
  rw [if_neg (by omega), if_neg (by omega), Nat.add_sub_cancel_left, hd]
theorem xcopy {X : XS} {M : MS} {o : MjO} {q : MjIns} {pc t : Nat} {l : MjL} {st : List Value} {a d n0 n1 : Nat} {sp dp n : Int32} (hs : xT X a = some (t, n0)) (ht : xT X d = some (t, n1)) (h3 : t = 0 ∨ t = 2 ∧ (List.range n.toNatClampNeg).all (fun i => fits .char (.int (X.1 a (sp.toNatClampNeg + i)))) = true) (hc : cpo sp dp n n0 n1) : mjCopy o q pc l (.int n :: .int dp :: .ref d :: .int sp :: .ref a :: st) (hS X M) = some (pc + 3, l, st, hS (xc X (X.1 a) d sp.toNatClampNeg dp.toNatClampNeg n.toNatClampNeg) M) := by
  have h2 : t < 3 := by rcases h3 with e | e <;> omega
  have e : mjSrc o (hS X M) t (.ref a) = some (n0, X.1 a) := by
    unfold mjSrc
    dsimp only
    rw [xar hs h2]
    dsimp only
    rw [if_pos rfl]
  unfold mjCopy
  dsimp only
  rw [xar ht h2]
  dsimp only
  rw [e]
  dsimp only
  rw [if_pos ⟨h3, hc⟩, hS_xc ht h2]
theorem xcopyO {X : XS} {M : MS} {o : MjO} {q : MjIns} {pc k : Nat} {l : MjL} {st : List Value} {d n0 n1 : Nat} {f : Nat → Int32} {sp dp n : Int32} (hs : o k = some (n0, f)) (ht : xT X d = some (0, n1)) (hc : cpo sp dp n n0 n1) : mjCopy o q pc l (.int n :: .int dp :: .ref d :: .int sp :: .retAddr k :: st) (hS X M) = some (pc + 3, l, st, hS (xc X f d sp.toNatClampNeg dp.toNatClampNeg n.toNatClampNeg) M) := by
  have e : mjSrc o (hS X M) 0 (.retAddr k) = some (n0, f) := by
    unfold mjSrc
    dsimp only
    rw [if_pos rfl, hs]
  unfold mjCopy
  dsimp only
  rw [xar ht (by decide)]
  dsimp only
  rw [e]
  dsimp only
  rw [if_pos ⟨Or.inl rfl, hc⟩, hS_xc ht (by decide)]
theorem mg_I {X : XS} {M : MS} {o : MjO} {q : MjIns} {pc : Nat} {l : MjL} {st : List Value} {f : Nat} (hc : q.2.2.2.1 = 12) (hf : q.2.2.2.2.1 = f) (hk : (fk 12)[f]? = some 0) : mjGet o q pc l (.ref 60 :: st) (hS X M) = some (pc + 3, l, .int (M.1 60 f) :: st, hS X M) := by
  rw [go_get (mo (a := 60) (c := 12) (n := 0) rfl) hc.symm (by rw [hf]; exact flds_get hk)]
  rfl
theorem mg_F {X : XS} {M : MS} {o : MjO} {q : MjIns} {pc : Nat} {l : MjL} {st : List Value} {f r : Nat} (hc : q.2.2.2.1 = 12) (hf : q.2.2.2.2.1 = f) (hk : (fk 12)[f]? = some 1) (hr : fxP 60 f = some r) : mjGet o q pc l (.ref 60 :: st) (hS X M) = some (pc + 3, l, .ref r :: st, hS X M) := by
  rw [go_get (mo (a := 60) (c := 12) (n := 0) rfl) hc.symm (by rw [hf]; exact flds_get hk)]
  unfold mkF hP
  rw [hr]
  rfl
theorem mg_L {X : XS} {M : MS} {o : MjO} {q : MjIns} {pc : Nat} {l : MjL} {st : List Value} {f : Nat} (hc : q.2.2.2.1 = 12) (hf : q.2.2.2.2.1 = f) (hk : (fk 12)[f]? = some 2) : mjGet o q pc l (.ref 60 :: st) (hS X M) = some (pc + 3, l, .long M.2 :: st, hS X M) := by
  rw [go_get (mo (a := 60) (c := 12) (n := 0) rfl) hc.symm (by rw [hf]; exact flds_get hk)]
  rfl
theorem mp_I {X : XS} {M : MS} {o : MjO} {q : MjIns} {pc : Nat} {l : MjL} {st : List Value} {f : Nat} {v : Int32} (hc : q.2.2.2.1 = 12) (hf : q.2.2.2.2.1 = f) (hk : (fk 12)[f]? = some 0) (hn : mjNar (mjTy 12 f) (.int v) = true) : mjPut o q pc l (.int v :: .ref 60 :: st) (hS X M) = some (pc + 3, l, st, hS X (mw M 60 f v)) := by
  subst hf
  rw [go_put (mo (a := 60) (c := 12) (n := 0) rfl) ⟨hc.symm, by rw [List.length_mapIdx]; exact (List.getElem?_eq_some_iff.mp hk).1, hn⟩, hS_mwF (n := 0) rfl (by decide) hk]
theorem mp_L {X : XS} {M : MS} {o : MjO} {q : MjIns} {pc : Nat} {l : MjL} {st : List Value} {v : Int64} (hc : q.2.2.2.1 = 12) (hf : q.2.2.2.2.1 = 60) : mjPut o q pc l (.long v :: .ref 60 :: st) (hS X M) = some (pc + 3, l, st, hS X (mlg M v)) := by
  rw [go_put (mo (a := 60) (c := 12) (n := 0) rfl) ⟨hc.symm, by rw [hf, List.length_mapIdx]; decide, by rw [hf]; rfl⟩, hf, hS_ml]
theorem mld {X : XS} {M : MS} {o : MjO} {q : MjIns} {pc t : Nat} {l : MjL} {st : List Value} {a n : Nat} {i : Int32} (ht : fxT[a]? = some (t, n)) (hr : (decide (60 ≤ a ∧ a < 130)) = true) (h3 : t < 3) (hi : ixo i n) : mjLd t o q pc l (.int i :: .ref a :: st) (hS X M) = some (pc + 1, l, .int (M.1 a i.toNatClampNeg) :: st, hS X M) := go_ld (mar ht (of_decide_eq_true hr) h3) hi
theorem mst {X : XS} {M : MS} {o : MjO} {q : MjIns} {pc t : Nat} {g : Int32 → Int32} {l : MjL} {st : List Value} {a n : Nat} {i v : Int32} (ht : fxT[a]? = some (t, n)) (hr : (decide (60 ≤ a ∧ a < 130)) = true) (h3 : t < 3) (hi : ixo i n) : mjSt t g o q pc l (.int v :: .int i :: .ref a :: st) (hS X M) = some (pc + 1, l, st, hS X (mw M a i.toNatClampNeg (g v))) := by
  rw [go_st (mar ht (of_decide_eq_true hr) h3) hi, hS_mwA ht (of_decide_eq_true hr) h3]
theorem mlen {X : XS} {M : MS} {o : MjO} {q : MjIns} {pc t : Nat} {l : MjL} {st : List Value} {a n : Nat} (ht : fxT[a]? = some (t, n)) (hr : (decide (60 ≤ a ∧ a < 130)) = true) (h3 : t < 3) : mjLen o q pc l (.ref a :: st) (hS X M) = some (pc + 1, l, .int (Int32.ofNat n) :: st, hS X M) := by
  unfold mjLen
  dsimp only
  rw [mar ht (of_decide_eq_true hr) h3]
  dsimp only
  rw [if_pos (by omega)]
theorem old_ld {o : MjO} {q : MjIns} {pc k n : Nat} {l : MjL} {st : List Value} {h : MjH} {i : Int32} {f : Nat → Int32} (ho : o k = some (n, f)) (hi : ixo i n) : mjLd 0 o q pc l (.int i :: .retAddr k :: st) h = some (pc + 1, l, .int (f i.toNatClampNeg) :: st, h) := by
  unfold mjLd
  dsimp only
  rw [ho]
  dsimp only
  rw [if_pos ⟨rfl, hi⟩]
theorem old_len {o : MjO} {q : MjIns} {pc k n : Nat} {l : MjL} {st : List Value} {h : MjH} {f : Nat → Int32} (ho : o k = some (n, f)) : mjLen o q pc l (.retAddr k :: st) h = some (pc + 1, l, .int (Int32.ofNat n) :: st, h) := by
  unfold mjLen
  dsimp only
  rw [ho]
theorem xrecv {X : XS} {M : MS} {z k a c n : Nat} {vs : List Value} (hk : ¬ (k = 1 ∨ k = 4)) (ht : xT X a = some (5 + c, n)) (hc : decide (c < vwCl.length ∧ (mjCls c).1 = (mjMeth z).1.cls) = true) : mjRecv z k (hS X M) (.ref a :: vs) = true := go_recv hk (xo ht) hc
theorem mrecv {X : XS} {M : MS} {z k : Nat} {vs : List Value} (hk : ¬ (k = 1 ∨ k = 4)) (hc : decide (12 < vwCl.length ∧ (mjCls 12).1 = (mjMeth z).1.cls) = true) : mjRecv z k (hS X M) (.ref 60 :: vs) = true := go_recv hk (mo (a := 60) (c := 12) (n := 0) rfl) hc
theorem dyn_of {X : XS} {a c n : Nat} (ht : xT X a = some (5 + c, n)) (hc : fxT.all (fun q => decide (q.1 ≠ 5 + c)) = true) : 130 ≤ a := by
  apply Nat.le_of_not_lt
  intro hl
  have h1 := (xT_ok ht).1
  unfold hT at h1
  rw [List.getElem?_append_left (by rw [fxT_len]; exact hl)] at h1
  exact absurd rfl (of_decide_eq_true (List.all_eq_true.mp hc _ (List.mem_of_getElem? h1)))
