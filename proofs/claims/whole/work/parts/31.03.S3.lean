/-! S3 -/
/-- tags of cells: the fixed ones have their own, but for six rows that are made anew -/
def TG (T : Nat → Nat) : Prop := ∀ a, a < 130 → a ≠ 31 → a ≠ 36 → a ≠ 52 → a ≠ 42 → a ≠ 43 → a ≠ 44 → T a = 1000 + a
def SrcT (t : Nat) : Prop := (100 ≤ t ∧ t < 500) ∨ (1001 ≤ t ∧ t ≤ 1009)
/-- shapes stay, and tags -/
def Mw (T T' : Nat → Nat) (X X' : XS) : Prop := xA X ≤ xA X' ∧ (∀ b, b < xA X → T' b = T b) ∧ ∀ b q, xT X b = some q → xT X' b = some q
/-- the room that the later cells take, and what it is held against -/
def aSm (X : XS) : Nat := (X.2.2.map (fun q => q.2 + 20)).sum
def aRl (X : XS) (c f : Nat) : Nat := match X.2.1 c f with
  | some b => match xT X b with
    | some q => q.2
    | none => 0
  | none => 0
def aOn (o : Option Nat) : Nat := match o with
  | some _ => 1
  | none => 0
def aNs (X : XS) : Nat := aOn (X.2.1 50 0) + aOn (X.2.1 50 1) + aOn (X.2.1 50 2) + aOn (X.2.1 50 3) + aOn (X.2.1 50 4) + aOn (X.2.1 50 5)
def aW (X : XS) : Nat := 3 * aRl X 30 2 + 3 * aRl X 35 2 + 3 * aRl X 51 2 + 3 * aRl X 41 1 + 2000 * aNs X
def aAl (X X' : XS) : Prop := aSm X' + aW X ≤ aSm X + aW X'
theorem aSm_2 {X X' : XS} (e : X'.2 = X.2) : aSm X' = aSm X := by unfold aSm; rw [e]
theorem aW_2 {X X' : XS} (e : X'.2 = X.2) : aW X' = aW X := by
  unfold aW aRl aNs xT hT
  rw [e]
set_option maxRecDepth 20000 in
set_option maxHeartbeats 4000000 in
theorem aAl_2 {X X' : XS} (e : X'.2 = X.2) : aAl X X' := by
  unfold aAl
  rw [aSm_2 e, aW_2 e]
  exact Nat.le_refl _
theorem aAl.trans {X Y Z : XS} (h : aAl X Y) (k : aAl Y Z) : aAl X Z := by
  unfold aAl at *
  omega
set_option maxRecDepth 20000 in
set_option maxHeartbeats 4000000 in
theorem aRl_mono {X X' : XS} {c f : Nat} (e : X'.2.1 c f = X.2.1 c f) (sh : ∀ b q, xT X b = some q → xT X' b = some q) : aRl X c f ≤ aRl X' c f := by
  unfold aRl
  rw [e]
  cases X.2.1 c f with
  | none => exact Nat.le_refl _
  | some b =>
    dsimp only
    cases h : xT X b with
    | none => exact Nat.zero_le _
    | some q =>
      rw [sh b q h]
      exact Nat.le_refl _
theorem aSm_app {X X' : XS} {l : List (Nat × Nat)} (e : X'.2.2 = X.2.2 ++ l) : aSm X' = aSm X + (l.map (fun q => q.2 + 20)).sum := by
  unfold aSm
  rw [e, List.map_append, List.sum_append]
set_option maxRecDepth 20000 in
set_option maxHeartbeats 4000000 in
theorem aW_mono {X X' : XS} (hp : ∀ a f, a = 30 ∨ a = 35 ∨ a = 51 ∨ a = 41 ∨ a = 50 → X'.2.1 a f = X.2.1 a f) (sh : ∀ b q, xT X b = some q → xT X' b = some q) : aW X ≤ aW X' := by
  have h1 := aRl_mono (hp 30 2 (by omega)) sh
  have h2 := aRl_mono (hp 35 2 (by omega)) sh
  have h3 := aRl_mono (hp 51 2 (by omega)) sh
  have h4 := aRl_mono (hp 41 1 (by omega)) sh
  have h5 : aNs X' = aNs X := by
    unfold aNs
    rw [hp 50 0 (by omega), hp 50 1 (by omega), hp 50 2 (by omega), hp 50 3 (by omega), hp 50 4 (by omega), hp 50 5 (by omega)]
  unfold aW
  omega
set_option maxRecDepth 20000 in
set_option maxHeartbeats 4000000 in
/-- a row of bytes was made anew, twice as long -/
theorem aAl_put {X X' : XS} {c b n : Nat} (hc : c = 30 ∨ c = 35 ∨ c = 51) (h64 : 64 ≤ n) (e : X'.2.2 = X.2.2 ++ [(0, 2 * n)]) (e0 : X.2.1 c 2 = some b) (eb : xT X b = some (0, n)) (e1 : X'.2.1 c 2 = some (xA X)) (x1 : xT X' (xA X) = some (0, 2 * n)) (hp : ∀ a f, a = 30 ∨ a = 35 ∨ a = 51 ∨ a = 41 ∨ a = 50 → ¬ (a = c ∧ f = 2) → X'.2.1 a f = X.2.1 a f) (sh : ∀ b q, xT X b = some q → xT X' b = some q) : aAl X X' := by
  have s := aSm_app e
  simp only [List.map_cons, List.map_nil, List.sum_cons, List.sum_nil] at s
  have r0 : aRl X c 2 = n := by unfold aRl; rw [e0]; dsimp only; rw [eb]
  have r1 : aRl X' c 2 = 2 * n := by unfold aRl; rw [e1]; dsimp only; rw [x1]
  have m : ∀ a f, a = 30 ∨ a = 35 ∨ a = 51 ∨ a = 41 → ¬ (a = c ∧ f = 2) → aRl X a f ≤ aRl X' a f := fun a f ha hn => aRl_mono (hp a f (by omega) hn) sh
  have h4 := m 41 1 (by omega) (by omega)
  have h5 : aNs X' = aNs X := by
    unfold aNs
    rw [hp 50 0 (by omega) (by omega), hp 50 1 (by omega) (by omega), hp 50 2 (by omega) (by omega), hp 50 3 (by omega) (by omega), hp 50 4 (by omega) (by omega), hp 50 5 (by omega) (by omega)]
  unfold aAl aW
  rcases hc with e | e | e
  · subst e
    have := m 35 2 (by omega) (by omega)
    have := m 51 2 (by omega) (by omega)
    omega
  · subst e
    have := m 30 2 (by omega) (by omega)
    have := m 51 2 (by omega) (by omega)
    omega
  · subst e
    have := m 30 2 (by omega) (by omega)
    have := m 35 2 (by omega) (by omega)
    omega
/-- the same, and the room is accounted for -/
def Mo (T T' : Nat → Nat) (X X' : XS) : Prop := (xA X ≤ xA X' ∧ aAl X X') ∧ (∀ b, b < xA X → T' b = T b) ∧ ∀ b q, xT X b = some q → xT X' b = some q
theorem Mo.w {T T' : Nat → Nat} {X X' : XS} (h : Mo T T' X X') : Mw T T' X X' := ⟨h.1.1, h.2.1, h.2.2⟩
set_option maxRecDepth 20000 in
set_option maxHeartbeats 4000000 in
theorem Mo.id (T : Nat → Nat) {X X' : XS} (e : X'.2 = X.2) : Mo T T X X' := by
  refine ⟨⟨by unfold xA; rw [e]; exact Nat.le_refl _, aAl_2 e⟩, fun _ _ => rfl, fun b q hq => ?_⟩
  unfold xT hT at hq ⊢
  rw [e]
  exact hq
/-- cells of these tags are as they were -/
def Un (S : Nat → Prop) (T : Nat → Nat) (X X' : XS) : Prop := ∀ b, b < xA X → S (T b) → X'.1 b = X.1 b ∧ X'.2.1 b = X.2.1 b
def RSa (X : XS) (T : Nat → Nat) (m a : Nat) (f : Nat → Nat) : Prop := X.2.1 2 m = some a ∧ xT X a = some (12, 0) ∧ T a = 100 + 16 * m ∧
  (∀ k, k = 7 ∨ k = 8 → X.2.1 a k = some (f k) ∧ xT X (f k) = some (0, 60) ∧ T (f k) = 100 + 16 * m + k) ∧
  (∀ k, 10 ≤ k → k ≤ 13 → X.2.1 a k = some (f k) ∧ xT X (f k) = some (0, 6) ∧ T (f k) = 100 + 16 * m + k)
def RSv (X : XS) (M : MS) (kc m a : Nat) (f : Nat → Nat) : Prop :=
  X.1 a 0 = M.1 64 m ∧ X.1 a 1 = M.1 65 m ∧ X.1 a 2 = M.1 66 m ∧ X.1 a 3 = M.1 67 m ∧ X.1 a 4 = M.1 68 m ∧ X.1 a 5 = M.1 69 m ∧ X.1 a 6 = M.1 70 m ∧ X.1 a 9 = M.1 73 m ∧
  (∃ c, c < kc ∧ M.1 64 m = Int32.ofNat c) ∧ Bd 0 4 (M.1 66 m) ∧ (0 ≤ M.1 67 m ∧ M.1 67 m ≤ ((1 : Int32) <<< ((M.1 66 m : Int32) &&& 31)) - 1) ∧ Bd 0 2 (M.1 68 m) ∧ (if M.1 65 m = -2 then M.1 66 m else M.1 66 m + 1) ≤ M.1 69 m ∧ M.1 69 m ≤ 12 ∧
  (∃ s, s ≤ 60 ∧ M.1 70 m = Int32.ofNat s ∧ ∀ i, i < s → X.1 (f 7) i = M.1 71 (60 * m + i) ∧ X.1 (f 8) i = M.1 72 (60 * m + i) ∧ Bd 0 55 (M.1 71 (60 * m + i))) ∧
  (∃ s, s ≤ 6 ∧ M.1 73 m = Int32.ofNat s ∧ ∀ i, i < s → X.1 (f 10) i = M.1 74 (24 * m + 4 * i) ∧ X.1 (f 11) i = M.1 74 (24 * m + 4 * i + 1) ∧ X.1 (f 12) i = M.1 74 (24 * m + 4 * i + 2) ∧ X.1 (f 13) i = M.1 74 (24 * m + 4 * i + 3))
def RSr (X : XS) (M : MS) (T : Nat → Nat) (kc m : Nat) : Prop := ∃ a f, RSa X T m a f ∧ RSv X M kc m a f
/-- the source on both sides -/
def RSc (X : XS) (M : MS) (T : Nat → Nat) (kc rc : Nat) : Prop := RSk X M kc ∧ rc ≤ 24 ∧ X.1 1 2 = Int32.ofNat rc ∧ M.1 60 15 = Int32.ofNat rc ∧ RSn X M kc rc ∧ ∀ m, m < rc → RSr X M T kc m
def RS (X : XS) (M : MS) (T : Nat → Nat) : Prop := ∃ kc rc, RSc X M T kc rc
set_option maxRecDepth 20000 in
set_option maxHeartbeats 4000000 in
theorem RSr_frame {X X' : XS} {M M' : MS} {T T' : Nat → Nat} {kc kc' m : Nat} (h : RSr X M T kc m) (hk : kc ≤ kc') (hX : Un (fun t => 100 + 16 * m ≤ t ∧ t < 116 + 16 * m) T X X') (h2 : X'.2.1 2 m = X.2.1 2 m) (hm : Mw T T' X X')
    (m1 : ∀ c, (64 ≤ c ∧ c ≤ 70) ∨ c = 73 → M'.1 c m = M.1 c m) (m2 : ∀ i, i < 60 → M'.1 71 (60 * m + i) = M.1 71 (60 * m + i) ∧ M'.1 72 (60 * m + i) = M.1 72 (60 * m + i)) (m3 : ∀ i, i < 24 → M'.1 74 (24 * m + i) = M.1 74 (24 * m + i)) : RSr X' M' T' kc' m := by
  obtain ⟨a, f, ⟨a1, a2, a3, a4, a5⟩, v⟩ := h
  obtain ⟨m4, m5, m6⟩ := hm
  have ha := hX a (xT_lt a2) (by omega)
  have hf : ∀ k, (k = 7 ∨ k = 8) ∨ (10 ≤ k ∧ k ≤ 13) → f k < xA X ∧ X'.1 (f k) = X.1 (f k) := by
    intro k hk
    rcases hk with hk | hk
    · have q := a4 k hk
      exact ⟨xT_lt q.2.1, (hX (f k) (xT_lt q.2.1) (by omega)).1⟩
    · have q := a5 k hk.1 hk.2
      exact ⟨xT_lt q.2.1, (hX (f k) (xT_lt q.2.1) (by omega)).1⟩
  refine ⟨a, f, ⟨?_, m6 _ _ a2, ?_, ?_, ?_⟩, ?_⟩
  · rw [h2]; exact a1
  · rw [m5 a (xT_lt a2)]; exact a3
  · intro k hk
    have q := a4 k hk
    rw [ha.2, m5 (f k) (hf k (Or.inl hk)).1]
    exact ⟨q.1, m6 _ _ q.2.1, q.2.2⟩
  · intro k h1 h2
    have q := a5 k h1 h2
    rw [ha.2, m5 (f k) (hf k (Or.inr ⟨h1, h2⟩)).1]
    exact ⟨q.1, m6 _ _ q.2.1, q.2.2⟩
  · unfold RSv at v ⊢
    rw [ha.1, (hf 7 (by omega)).2, (hf 8 (by omega)).2, (hf 10 (by omega)).2, (hf 11 (by omega)).2, (hf 12 (by omega)).2, (hf 13 (by omega)).2, m1 64 (by omega), m1 65 (by omega), m1 66 (by omega), m1 67 (by omega), m1 68 (by omega), m1 69 (by omega), m1 70 (by omega), m1 73 (by omega)]
    obtain ⟨v1, v2, v3, v4, v5, v6, v7, v8, ⟨c, v9, v10⟩, v11, v12, v13, v14, v15, ⟨s, v16, v17, v18⟩, ⟨s2, v19, v20, v21⟩⟩ := v
    refine ⟨v1, v2, v3, v4, v5, v6, v7, v8, ⟨c, by omega, v10⟩, v11, v12, v13, v14, v15, ⟨s, v16, v17, ?_⟩, ⟨s2, v19, v20, ?_⟩⟩
    · intro i hi
      have q := m2 i (by omega)
      rw [q.1, q.2]
      exact v18 i hi
    · intro i hi
      rw [show 24 * m + 4 * i + 1 = 24 * m + (4 * i + 1) from by omega, show 24 * m + 4 * i + 2 = 24 * m + (4 * i + 2) from by omega, show 24 * m + 4 * i + 3 = 24 * m + (4 * i + 3) from by omega, m3 (4 * i) (by omega), m3 (4 * i + 1) (by omega), m3 (4 * i + 2) (by omega), m3 (4 * i + 3) (by omega)]
      exact v21 i hi
set_option maxRecDepth 20000 in
set_option maxHeartbeats 4000000 in
theorem RSk_frame {X X' : XS} {M M' : MS} {kc : Nat} (h : RSk X M kc) (h1 : X'.1 1 1 = X.1 1 1) (h3 : ∀ c, 3 ≤ c → c ≤ 7 → X'.1 c = X.1 c) (m1 : M'.1 60 3 = M.1 60 3) (m2 : ∀ c, 61 ≤ c → c ≤ 63 → M'.1 c = M.1 c) : RSk X' M' kc := by
  unfold RSk at h ⊢
  rw [h1, h3 3 (by omega) (by omega), h3 4 (by omega) (by omega), h3 5 (by omega) (by omega), h3 6 (by omega) (by omega), h3 7 (by omega) (by omega), m1, m2 61 (by omega) (by omega), m2 62 (by omega) (by omega), m2 63 (by omega) (by omega)]
  exact h
set_option maxRecDepth 20000 in
set_option maxHeartbeats 4000000 in
theorem RSn_frame {X X' : XS} {M M' : MS} {kc rc : Nat} (h : RSn X M kc rc) (h8 : X'.1 8 = X.1 8) (h9 : X'.1 9 = X.1 9) (m2 : ∀ c, 64 ≤ c → c ≤ 68 → M'.1 c = M.1 c) : RSn X' M' kc rc := by
  unfold RSn at h ⊢
  rw [h8, h9, m2 64 (by omega) (by omega), m2 65 (by omega) (by omega), m2 66 (by omega) (by omega), m2 67 (by omega) (by omega), m2 68 (by omega) (by omega)]
  exact h
