/-! Wo -/
/-- it comes out, and with this -/
def Wo {α : Type} (o : Option α) (Q : α → Prop) : Prop := ∃ a, o = some a ∧ Q a
theorem W_some {α : Type} {a : α} {Q : α → Prop} : Wo (some a) Q ↔ Q a := ⟨fun ⟨_, h, q⟩ => by cases h; exact q, fun q => ⟨a, rfl, q⟩⟩
theorem W_none {α : Type} {Q : α → Prop} : Wo none Q ↔ False := ⟨fun ⟨_, h, _⟩ => (by cases h), False.elim⟩
set_option maxRecDepth 20000 in
set_option maxHeartbeats 4000000 in
theorem W_bind {α β : Type} {o : Option α} {f : α → Option β} {Q : β → Prop} : Wo (o.bind f) Q ↔ Wo o (fun a => Wo (f a) Q) := by
  constructor
  · intro ⟨b, h, q⟩
    cases o with
    | none => cases h
    | some a => exact ⟨a, rfl, b, h, q⟩
  · intro ⟨a, h, b, h2, q⟩
    subst h
    exact ⟨b, h2, q⟩
theorem W_ite {α : Type} {c : Prop} [Decidable c] {a b : Option α} {Q : α → Prop} : Wo (if c then a else b) Q ↔ (c → Wo a Q) ∧ (¬ c → Wo b Q) := by
  by_cases h : c <;> simp [h]
theorem W_guard {α : Type} {c : Prop} [Decidable c] {a : Option α} {Q : α → Prop} : Wo (if c then a else none) Q ↔ c ∧ Wo a Q := by
  by_cases h : c <;> simp [h, W_none]
set_option maxRecDepth 20000 in
set_option maxHeartbeats 4000000 in
theorem W_ocz {α β : Type} {o : Option α} {f : α → Option β} {Q : β → Prop} : Wo (ocz o none f) Q ↔ Wo o (fun a => Wo (f a) Q) := by
  unfold ocz
  cases o with
  | none => simp [W_none]
  | some a => simp [W_some]
theorem W_ocz2 {α β : Type} {o : Option α} {e : Option β} {f : α → Option β} {Q : β → Prop} : Wo (ocz o e f) Q ↔ (o = none → Wo e Q) ∧ (∀ a, o = some a → Wo (f a) Q) := by
  unfold ocz
  cases o <;> simp
theorem W_lt {α β : Type} {a : α} {f : α → Option β} {Q : β → Prop} : Wo (lt a f) Q ↔ Wo (f a) Q := Iff.rfl
theorem Wo.mono {α : Type} {o : Option α} {Q Q' : α → Prop} (h : Wo o Q) (k : ∀ a, Q a → Q' a) : Wo o Q' := by
  obtain ⟨a, e, q⟩ := h
  exact ⟨a, e, k a q⟩
set_option maxRecDepth 20000 in
set_option maxHeartbeats 4000000 in
/-- a loop -/
theorem W_lp {α ρ : Type} {body : α → Option (α ⊕ ρ)} {Q : ρ → Prop} (I : α → Prop) (μ : α → Nat) (hb : ∀ x, I x → Wo (body x) (fun s => match s with | .inl y => I y ∧ μ y < μ x | .inr r => Q r)) : ∀ n x, I x → μ x < n → Wo (lp body n x) Q := by
  intro n
  induction n with
  | zero => intro x _ h; omega
  | succ n ih =>
    intro x hi hm
    obtain ⟨s, e, q⟩ := hb x hi
    unfold lp
    rw [e]
    cases s with
    | inl y => exact ih y q.1 (by have := q.2; omega)
    | inr r => exact W_some.mpr q
set_option maxRecDepth 20000 in
set_option maxHeartbeats 4000000 in
theorem xw1 (X : XS) (a i : Nat) (v : Int32) (b j : Nat) : (xw X a i v).1 b j = if b = a ∧ j = i then v else X.1 b j := by
  unfold xw upd
  dsimp only
  by_cases h : b = a
  · subst h; simp
  · simp [h]
theorem xw2 (X : XS) (a i : Nat) (v : Int32) : (xw X a i v).2 = X.2 := rfl
theorem xp1 (X : XS) (a i : Nat) (v : Option Nat) : (xp X a i v).1 = X.1 := rfl
set_option maxRecDepth 20000 in
set_option maxHeartbeats 4000000 in
theorem xp2 (X : XS) (a i : Nat) (v : Option Nat) (b j : Nat) : (xp X a i v).2.1 b j = if b = a ∧ j = i then v else X.2.1 b j := by
  unfold xp va_up
  dsimp only
  by_cases h : b = a
  · subst h; simp
  · simp [h]
theorem xp3 (X : XS) (a i : Nat) (v : Option Nat) : (xp X a i v).2.2 = X.2.2 := rfl
set_option maxRecDepth 20000 in
set_option maxHeartbeats 4000000 in
theorem mw1 (M : MS) (a i : Nat) (v : Int32) (b j : Nat) : (mw M a i v).1 b j = if b = a ∧ j = i then v else M.1 b j := by
  unfold mw upd
  dsimp only
  by_cases h : b = a
  · subst h; simp
  · simp [h]
theorem mw2 (M : MS) (a i : Nat) (v : Int32) : (mw M a i v).2 = M.2 := rfl
set_option maxRecDepth 20000 in
set_option maxHeartbeats 4000000 in
theorem xn1 (X : XS) (t n b j : Nat) : (xn X t n).1 b j = if b = xA X then 0 else X.1 b j := by
  unfold xn
  dsimp only
  by_cases h : b = xA X <;> simp [h]
set_option maxRecDepth 20000 in
set_option maxHeartbeats 4000000 in
theorem xn2 (X : XS) (t n b j : Nat) : (xn X t n).2.1 b j = if b = xA X then none else X.2.1 b j := by
  unfold xn
  dsimp only
  by_cases h : b = xA X <;> simp [h]
set_option maxRecDepth 20000 in
set_option maxHeartbeats 4000000 in
theorem xc1 (X : XS) (f : Nat → Int32) (d sp dp n b j : Nat) : (xc X f d sp dp n).1 b j = if b = d ∧ dp ≤ j ∧ j < dp + n then f (sp + (j - dp)) else X.1 b j := by
  unfold xc va_cpy
  dsimp only
  by_cases h : b = d
  · subst h; simp
  · simp [h]
theorem xc2 (X : XS) (f : Nat → Int32) (d sp dp n : Nat) : (xc X f d sp dp n).2 = X.2 := rfl
set_option maxRecDepth 20000 in
set_option maxHeartbeats 4000000 in
theorem clampI (x : Int32) (h : 0 ≤ x) : (x.toNatClampNeg : Int) = x.toInt := by
  have : (0 : Int) ≤ x.toInt := by have := Int32.le_iff_toInt_le.mp h; simpa using this
  unfold Int32.toNatClampNeg
  omega
theorem ixo_iff (i : Int32) (n : Nat) : ixo i n ↔ 0 ≤ i ∧ i.toNatClampNeg < n := by
  unfold ixo
  rw [not_or, Int32.not_lt, Nat.not_le]
set_option maxRecDepth 20000 in
set_option maxHeartbeats 4000000 in
theorem oi (n : Nat) (h : n < 2147483648) : (Int32.ofNat n).toInt = (n : Int) := by
  rw [Int32.toInt_ofNat']
  simp [Int.bmod]
  omega
theorem o_le (a b : Nat) (h : a < 2147483648) (k : b < 2147483648) : (Int32.ofNat a ≤ Int32.ofNat b) = (a ≤ b) := by
  rw [Int32.le_iff_toInt_le, oi a h, oi b k]
  simp
theorem o_lt (a b : Nat) (h : a < 2147483648) (k : b < 2147483648) : (Int32.ofNat a < Int32.ofNat b) = (a < b) := by
  rw [Int32.lt_iff_toInt_lt, oi a h, oi b k]
  simp
theorem o_eq (a b : Nat) (h : a < 2147483648) (k : b < 2147483648) : (Int32.ofNat a = Int32.ofNat b) = (a = b) := by
  rw [← Int32.toInt_inj, oi a h, oi b k, Int.ofNat_inj]
set_option maxRecDepth 20000 in
set_option maxHeartbeats 4000000 in
theorem o_cl (a : Nat) (h : a < 2147483648) : (Int32.ofNat a).toNatClampNeg = a := by
  unfold Int32.toNatClampNeg
  rw [oi a h]
  rfl
theorem o_add (a b : Nat) : Int32.ofNat a + Int32.ofNat b = Int32.ofNat (a + b) := (Int32.ofNat_add a b).symm
theorem o_mul (a b : Nat) : Int32.ofNat a * Int32.ofNat b = Int32.ofNat (a * b) := (Int32.ofNat_mul a b).symm
set_option maxRecDepth 20000 in
set_option maxHeartbeats 4000000 in
theorem o_sub (a b : Nat) (h : b ≤ a) : Int32.ofNat a - Int32.ofNat b = Int32.ofNat (a - b) := by
  have : Int32.ofNat a = Int32.ofNat (a - b) + Int32.ofNat b := by rw [o_add]; congr 1; omega
  rw [this]
  exact Int32.add_sub_cancel _ _
theorem o_lit (n : Nat) : (no_index (OfNat.ofNat n) : Int32) = Int32.ofNat (OfNat.ofNat n) := rfl
theorem o_leL (n b : Nat) (h : (OfNat.ofNat n : Nat) < 2147483648) (k : b < 2147483648) : ((no_index (OfNat.ofNat n : Int32)) ≤ Int32.ofNat b) = ((OfNat.ofNat n : Nat) ≤ b) := o_le n b h k
theorem o_leR (a n : Nat) (h : a < 2147483648) (k : (OfNat.ofNat n : Nat) < 2147483648) : (Int32.ofNat a ≤ (no_index (OfNat.ofNat n : Int32))) = (a ≤ (OfNat.ofNat n : Nat)) := o_le a n h k
theorem o_ltL (n b : Nat) (h : (OfNat.ofNat n : Nat) < 2147483648) (k : b < 2147483648) : ((no_index (OfNat.ofNat n : Int32)) < Int32.ofNat b) = ((OfNat.ofNat n : Nat) < b) := o_lt n b h k
theorem o_ltR (a n : Nat) (h : a < 2147483648) (k : (OfNat.ofNat n : Nat) < 2147483648) : (Int32.ofNat a < (no_index (OfNat.ofNat n : Int32))) = (a < (OfNat.ofNat n : Nat)) := o_lt a n h k
theorem o_eqL (n b : Nat) (h : (OfNat.ofNat n : Nat) < 2147483648) (k : b < 2147483648) : ((no_index (OfNat.ofNat n : Int32)) = Int32.ofNat b) = ((OfNat.ofNat n : Nat) = b) := o_eq n b h k
theorem o_eqR (a n : Nat) (h : a < 2147483648) (k : (OfNat.ofNat n : Nat) < 2147483648) : (Int32.ofNat a = (no_index (OfNat.ofNat n : Int32))) = (a = (OfNat.ofNat n : Nat)) := o_eq a n h k
theorem o_addL (n b : Nat) : (no_index (OfNat.ofNat n : Int32)) + Int32.ofNat b = Int32.ofNat ((OfNat.ofNat n : Nat) + b) := o_add n b
theorem o_addR (a n : Nat) : Int32.ofNat a + (no_index (OfNat.ofNat n : Int32)) = Int32.ofNat (a + (OfNat.ofNat n : Nat)) := o_add a n
theorem o_mulL (n b : Nat) : (no_index (OfNat.ofNat n : Int32)) * Int32.ofNat b = Int32.ofNat ((OfNat.ofNat n : Nat) * b) := o_mul n b
theorem o_mulR (a n : Nat) : Int32.ofNat a * (no_index (OfNat.ofNat n : Int32)) = Int32.ofNat (a * (OfNat.ofNat n : Nat)) := o_mul a n
theorem o_subR (a n : Nat) (h : (OfNat.ofNat n : Nat) ≤ a) : Int32.ofNat a - (no_index (OfNat.ofNat n : Int32)) = Int32.ofNat (a - (OfNat.ofNat n : Nat)) := o_sub a n h
set_option maxRecDepth 20000 in
set_option maxHeartbeats 4000000 in
theorem n1_eq (a : Nat) (h : a < 2147483648) : (Int32.ofNat a = -1) = False := by
  rw [← Int32.toInt_inj, oi a h]
  show ((a : Int) = -1) = False
  exact eq_false (by omega)
theorem n1_eq' (a : Nat) (h : a < 2147483648) : (-1 = Int32.ofNat a) = False := eq_false (fun e => by have := n1_eq a h; rw [e] at this; simp at this)
set_option maxRecDepth 20000 in
set_option maxHeartbeats 4000000 in
theorem n1_lt (a : Nat) (h : a < 2147483648) : (-1 < Int32.ofNat a) = True := by
  rw [Int32.lt_iff_toInt_lt, oi a h]
  show (-1 < (a : Int)) = True
  exact eq_true (by omega)
set_option maxRecDepth 20000 in
set_option maxHeartbeats 4000000 in
theorem n1_le (a : Nat) (h : a < 2147483648) : (-1 ≤ Int32.ofNat a) = True := by
  rw [Int32.le_iff_toInt_le, oi a h]
  show (-1 ≤ (a : Int)) = True
  exact eq_true (by omega)
set_option maxRecDepth 20000 in
set_option maxHeartbeats 4000000 in
theorem n1_ge (a : Nat) (h : a < 2147483648) : (Int32.ofNat a ≤ -1) = False := by
  rw [Int32.le_iff_toInt_le, oi a h]
  show ((a : Int) ≤ -1) = False
  exact eq_false (by omega)
set_option maxRecDepth 20000 in
set_option maxHeartbeats 4000000 in
theorem n1_gt (a : Nat) (h : a < 2147483648) : (Int32.ofNat a < -1) = False := by
  rw [Int32.lt_iff_toInt_lt, oi a h]
  show ((a : Int) < -1) = False
  exact eq_false (by omega)
set_option maxRecDepth 20000 in
set_option maxHeartbeats 4000000 in
theorem n2_eq (a : Nat) (h : a < 2147483648) : (Int32.ofNat a = -2) = False := by
  rw [← Int32.toInt_inj, oi a h]
  show ((a : Int) = -2) = False
  exact eq_false (by omega)
theorem n2_eq' (a : Nat) (h : a < 2147483648) : (-2 = Int32.ofNat a) = False := eq_false (fun e => by have := n2_eq a h; rw [e] at this; simp at this)
set_option maxRecDepth 20000 in
set_option maxHeartbeats 4000000 in
theorem n2_lt (a : Nat) (h : a < 2147483648) : (-2 < Int32.ofNat a) = True := by
  rw [Int32.lt_iff_toInt_lt, oi a h]
  show (-2 < (a : Int)) = True
  exact eq_true (by omega)
set_option maxRecDepth 20000 in
set_option maxHeartbeats 4000000 in
theorem n2_le (a : Nat) (h : a < 2147483648) : (-2 ≤ Int32.ofNat a) = True := by
  rw [Int32.le_iff_toInt_le, oi a h]
  show (-2 ≤ (a : Int)) = True
  exact eq_true (by omega)
set_option maxRecDepth 20000 in
set_option maxHeartbeats 4000000 in
theorem n2_ge (a : Nat) (h : a < 2147483648) : (Int32.ofNat a ≤ -2) = False := by
  rw [Int32.le_iff_toInt_le, oi a h]
  show ((a : Int) ≤ -2) = False
  exact eq_false (by omega)
set_option maxRecDepth 20000 in
set_option maxHeartbeats 4000000 in
theorem n2_gt (a : Nat) (h : a < 2147483648) : (Int32.ofNat a < -2) = False := by
  rw [Int32.lt_iff_toInt_lt, oi a h]
  show ((a : Int) < -2) = False
  exact eq_false (by omega)
set_option maxRecDepth 20000 in
set_option maxHeartbeats 4000000 in
theorem toN {x : Int32} (h : 0 ≤ x) : ∃ n, n < 2147483648 ∧ x = Int32.ofNat n := by
  have h1 : (0 : Int) ≤ x.toInt := Int32.le_iff_toInt_le.mp h
  have h2 : x.toInt < 2147483648 := x.toInt_lt
  refine ⟨x.toInt.toNat, by omega, ?_⟩
  apply Int32.toInt_inj.mp
  rw [oi _ (by omega)]
  omega
set_option maxRecDepth 20000 in
set_option maxHeartbeats 4000000 in
theorem toNle {x : Int32} {n : Nat} (hn : n < 2147483648) (h : 0 ≤ x) (h1 : x ≤ Int32.ofNat n) : ∃ k, k ≤ n ∧ x = Int32.ofNat k := by
  obtain ⟨k, hk, rfl⟩ := toN h
  rw [o_le k n hk hn] at h1
  exact ⟨k, h1, rfl⟩
set_option maxRecDepth 20000 in
set_option maxHeartbeats 4000000 in
theorem o_ixo (a n : Nat) (h : a < 2147483648) : ixo (Int32.ofNat a) n = (a < n) := by
  unfold ixo
  rw [o_cl a h]
  have : ¬ Int32.ofNat a < 0 := by
    rw [o_ltR a 0 h (by decide)]
    exact Nat.not_lt_zero a
  simp [this]
set_option maxRecDepth 20000 in
set_option maxHeartbeats 4000000 in
theorem o_cpo (a b n n0 n1 : Nat) (ha : a < 2147483648) (hb : b < 2147483648) (hn : n < 2147483648) : cpo (Int32.ofNat a) (Int32.ofNat b) (Int32.ofNat n) n0 n1 = (a + n ≤ n0 ∧ b + n ≤ n1) := by
  have z : ∀ a, a < 2147483648 → ¬ Int32.ofNat a < 0 := by
    intro a h
    rw [o_ltR a 0 h (by decide)]
    exact Nat.not_lt_zero a
  unfold cpo
  rw [o_cl a ha, o_cl b hb, o_cl n hn]
  simp [z a ha, z b hb, z n hn]
theorem o_0le (a : Nat) (h : a < 2147483648) : (0 ≤ Int32.ofNat a) = True := by
  rw [o_leL 0 a (by decide) h]
  exact eq_true (Nat.zero_le _)
theorem o_lt0 (a : Nat) (h : a < 2147483648) : (Int32.ofNat a < 0) = False := by
  rw [o_ltR a 0 h (by decide)]
  exact eq_false (Nat.not_lt_zero _)
theorem xTw (X : XS) (a i : Nat) (v : Int32) (b : Nat) : xT (xw X a i v) b = xT X b := rfl
theorem xLw (X : XS) (a i : Nat) (v : Int32) (t b : Nat) : xL (xw X a i v) t b = xL X t b := rfl
theorem xAw (X : XS) (a i : Nat) (v : Int32) : xA (xw X a i v) = xA X := rfl
theorem xTp (X : XS) (a i : Nat) (v : Option Nat) (b : Nat) : xT (xp X a i v) b = xT X b := rfl
theorem xLp (X : XS) (a i : Nat) (v : Option Nat) (t b : Nat) : xL (xp X a i v) t b = xL X t b := rfl
theorem xAp (X : XS) (a i : Nat) (v : Option Nat) : xA (xp X a i v) = xA X := rfl
theorem xTc (X : XS) (f : Nat → Int32) (d sp dp n b : Nat) : xT (xc X f d sp dp n) b = xT X b := rfl
theorem xLc (X : XS) (f : Nat → Int32) (d sp dp n t b : Nat) : xL (xc X f d sp dp n) t b = xL X t b := rfl
theorem xAc (X : XS) (f : Nat → Int32) (d sp dp n : Nat) : xA (xc X f d sp dp n) = xA X := rfl
set_option maxRecDepth 20000 in
set_option maxHeartbeats 4000000 in
theorem xAn (X : XS) (t n : Nat) : xA (xn X t n) = xA X + 1 := by
  unfold xA xn
  dsimp only
  rw [List.length_append]
  rfl
set_option maxRecDepth 20000 in
set_option maxHeartbeats 4000000 in
theorem xTn (X : XS) (t n b : Nat) : xT (xn X t n) b = if b = xA X then some (t, n) else xT X b := by
  have hl : fxT.length = 130 := rfl
  unfold xT xA
  by_cases h : 60 ≤ b ∧ b < 130
  · rw [if_pos h, if_pos h, if_neg (by omega)]
  · rw [if_neg h, if_neg h]
    unfold hT xn
    dsimp only
    rw [← List.append_assoc, List.getElem?_append, List.length_append, hl]
    by_cases e : b = 130 + X.2.2.length
    · subst e
      rw [if_pos rfl, if_neg (by omega), Nat.sub_self]
      rfl
    · rw [if_neg e]
      by_cases e2 : b < 130 + X.2.2.length
      · rw [if_pos e2]
      · rw [if_neg e2, List.getElem?_eq_none (by simp; omega), List.getElem?_eq_none (by rw [List.length_append, hl]; omega)]
set_option maxRecDepth 20000 in
set_option maxHeartbeats 4000000 in
theorem xLn (X : XS) (t n k b : Nat) : xL (xn X t n) k b = if b = xA X then (if t = k then some n else none) else xL X k b := by
  unfold xL
  rw [xTn]
  by_cases h : b = xA X <;> simp [h]
set_option maxRecDepth 20000 in
set_option maxHeartbeats 4000000 in
theorem xT_lt {X : XS} {a : Nat} {q : Nat × Nat} (h : xT X a = some q) : a < xA X := by
  have hl : fxT.length = 130 := rfl
  unfold xT at h
  split at h
  · cases h
  · have := (List.getElem?_eq_some_iff.mp h).1
    unfold hT at this
    rw [List.length_append, hl] at this
    exact this
set_option maxRecDepth 20000 in
set_option maxHeartbeats 4000000 in
theorem xL_iff {X : XS} {t a n : Nat} : xL X t a = some n ↔ xT X a = some (t, n) := by
  unfold xL
  cases h : xT X a with
  | none => simp
  | some q =>
    obtain ⟨u, m⟩ := q
    by_cases e : u = t <;> simp [e]
theorem W_sb {α ρ : Type} {s : α ⊕ ρ} {f : α → Option ρ} {Q : ρ → Prop} : Wo (sb s f) Q ↔ (∀ i, s = .inl i → Wo (f i) Q) ∧ (∀ v, s = .inr v → Q v) := by
  unfold sb
  cases s <;> simp [W_some]
theorem xA130 (X : XS) : 130 ≤ xA X := Nat.le_add_right _ _
theorem Wo.cps {α : Type} {o : Option α} {P : α → Prop} (h : ∀ Q : α → Prop, (∀ a, P a → Q a) → Wo o Q) : Wo o P := h P (fun _ x => x)
theorem Wo.cps2 {α β : Type} {o : Option α} {o' : Option β} {P : α → β → Prop} (h : ∀ Q : α → β → Prop, (∀ a b, P a b → Q a b) → Wo o (fun p => Wo o' (fun q => Q p q))) : Wo o (fun p => Wo o' (fun q => P p q)) := h P (fun _ _ x => x)
theorem ofN_or (a b : Nat) : Int32.ofNat a ||| Int32.ofNat b = Int32.ofNat (a ||| b) := by
  apply Int32.toBitVec_inj.mp
  simp [Int32.toBitVec_or, Int32.toBitVec_ofNat', BitVec.ofNat_or]
theorem ofN_and (a b : Nat) : Int32.ofNat a &&& Int32.ofNat b = Int32.ofNat (a &&& b) := by
  apply Int32.toBitVec_inj.mp
  simp [Int32.toBitVec_and, Int32.toBitVec_ofNat', BitVec.ofNat_and]
set_option maxRecDepth 20000 in
set_option maxHeartbeats 4000000 in
theorem shl8 (a : Nat) : Int32.ofNat a <<< ((8 : Int32) &&& 31) = Int32.ofNat (256 * a) := by
  have h : ((8 : Int32) &&& 31) = 8 := by decide
  rw [h, Nat.mul_comm 256 a, ← o_mul]
  apply Int32.toBitVec_inj.mp
  rw [Int32.toBitVec_shiftLeft, Int32.toBitVec_mul]
  show BitVec.ofNat 32 a <<< (BitVec.smod 8#32 32#32) = BitVec.ofNat 32 a * BitVec.ofNat 32 256
  have e : BitVec.smod 8#32 32#32 = 8#32 := by decide
  rw [e]
  apply BitVec.eq_of_toNat_eq
  simp [BitVec.toNat_shiftLeft, BitVec.toNat_mul, Nat.shiftLeft_eq]
set_option maxRecDepth 20000 in
set_option maxHeartbeats 4000000 in
theorem two_eq {a b : Nat} (hb : b < 256) : (Int32.ofNat a <<< ((8 : Int32) &&& 31)) ||| Int32.ofNat b = Int32.ofNat (256 * a + b) := by
  rw [shl8, ofN_or]
  congr 1
  have := Nat.shiftLeft_add_eq_or_of_lt (b := b) (i := 8) (by omega) a
  rw [Nat.shiftLeft_eq] at this
  rw [Nat.mul_comm 256 a]
  exact this.symm
set_option maxRecDepth 20000 in
set_option maxHeartbeats 4000000 in
theorem and255 {k : Nat} (h : k < 256) : Int32.ofNat k &&& 255 = Int32.ofNat k := by
  rw [show (255 : Int32) = Int32.ofNat 255 from rfl, ofN_and]
  congr 1
  exact Nat.and_two_pow_sub_one_of_lt_two_pow (n := 8) h
set_option maxRecDepth 20000 in
set_option maxHeartbeats 4000000 in
theorem and255_lt (k : Nat) : ∃ j, j < 256 ∧ Int32.ofNat k &&& 255 = Int32.ofNat j := by
  refine ⟨k % 256, Nat.mod_lt _ (by omega), ?_⟩
  rw [show (255 : Int32) = Int32.ofNat 255 from rfl, ofN_and]
  congr 1
  exact Nat.and_two_pow_sub_one_eq_mod k 8
set_option maxRecDepth 20000 in
set_option maxHeartbeats 4000000 in
theorem ofN_all (x : Int32) : ∃ k, x = Int32.ofNat k := by
  refine ⟨x.toBitVec.toNat, ?_⟩
  apply Int32.toBitVec_inj.mp
  simp [Int32.toBitVec_ofNat']
theorem byte_of (x : Int32) : ∃ j, j < 256 ∧ x &&& 255 = Int32.ofNat j := by
  obtain ⟨k, rfl⟩ := ofN_all x
  exact and255_lt k
theorem lp_inl {α ρ : Type} {body : α → Option (α ⊕ ρ)} {n : Nat} {x y : α} (h : body x = some (.inl y)) : lp body (n + 1) x = lp body n y := by
  show (match body x with | none => none | some (.inl x) => lp body n x | some (.inr r) => some r) = _
  rw [h]
theorem lp_inr {α ρ : Type} {body : α → Option (α ⊕ ρ)} {n : Nat} {x : α} {r : ρ} (h : body x = some (.inr r)) : lp body (n + 1) x = some r := by
  show (match body x with | none => none | some (.inl x) => lp body n x | some (.inr r) => some r) = _
  rw [h]
