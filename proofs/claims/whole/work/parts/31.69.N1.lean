/-! N1 -/
/-- an object's shape: head, ints, references, words, cells -/
def hdK (K : Nat) : Nat := if K < 10 then 4 else 5
def niK (Mr : MS) (K n : Nat) : Nat := if K < 10 then aI Mr K else if K = 10 then n else 0
def nrK (Mr : MS) (K n : Nat) : Nat := if K < 10 then aF Mr K else if K = 10 then 0 else n
def wzK (Mr : MS) (K n : Nat) : Nat := hdK K + 2 * niK Mr K n + nrK Mr K n
def czK (Mr : MS) (K n : Nat) : Nat := niK Mr K n + nrK Mr K n
def kcode (Mr : MS) (K : Nat) : Nat := if K < 10 then kn Mr K else if K = 10 then 254 else 255
/-- the objects in their order: how many, their numbers, kinds, lengths -/
abbrev HG : Type := (Nat) × (Nat → Nat) × (Nat → Nat) × (Nat → Nat)
abbrev HG.N (s0 : HG) : Nat := s0.1
abbrev HG.os (s0 : HG) : Nat → Nat := s0.2.1
abbrev HG.K (s0 : HG) : Nat → Nat := s0.2.2.1
abbrev HG.n (s0 : HG) : Nat → Nat := s0.2.2.2
def adH (Mr : MS) (A : HG) : Nat → Nat
  | 0 => 1
  | k + 1 => adH Mr A k + wzK Mr (A.K k) (A.n k)
def caH (Mr : MS) (A : HG) : Nat → Nat
  | 0 => 0
  | k + 1 => caH Mr A k + czK Mr (A.K k) (A.n k)
/-- a reference of the class and one of the reference -/
def RefR (Mr : MS) (A : HG) (x v : Int32) : Prop := (x = 0 ∧ v = 0) ∨ ∃ k, k < A.N ∧ x = Int32.ofNat (adH Mr A k) ∧ v = Int32.ofNat (A.os k)
def KOk (Mr : MS) (kc K n : Nat) : Prop := (K < kc ∧ fm Mr 76 K ∧ fm Mr 77 K ∧ n = 0) ∨ ((K = 10 ∨ K = 11) ∧ n ≤ 200)
/-- one object on both sides -/
def OB (Mr : MS) (kc : Nat) (A : HG) (V M : MS) (k : Nat) : Prop := (1 ≤ A.os k ∧ A.os k < 1002) ∧ (KOk Mr kc (A.K k) (A.n k)) ∧ (M.1 129 k = Int32.ofNat (A.os k)) ∧ (M.1 121 (A.os k) = Int32.ofNat (A.K k)) ∧ (M.1 122 (A.os k) = Int32.ofNat (A.n k)) ∧ (M.1 123 (A.os k) = Int32.ofNat (caH Mr A k)) ∧ (∃ e, e ≤ 60000 ∧ M.1 125 (A.os k) = Int32.ofNat e ∧ V.1 4 (adH Mr A k + 2) = Int32.ofNat e ∧ (e = 0 → V.1 4 (adH Mr A k + 1) = 0) ∧ (0 < e → ∃ w, w < 6 ∧ M.1 124 (A.os k) = Int32.ofNat w ∧ V.1 4 (adH Mr A k + 1) = Int32.ofNat (w + 1))) ∧ (V.1 4 (adH Mr A k) = Int32.ofNat (kcode Mr (A.K k))) ∧ (V.1 4 (adH Mr A k + 3) = 0) ∧ (10 ≤ A.K k → V.1 4 (adH Mr A k + 4) = Int32.ofNat (A.n k)) ∧ (∀ j, j < niK Mr (A.K k) (A.n k) → (V.1 4 (adH Mr A k + hdK (A.K k) + 2 * j) <<< ((16 : Int32) &&& 31)) ||| V.1 4 (adH Mr A k + hdK (A.K k) + 2 * j + 1) = M.1 127 (caH Mr A k + j)) ∧ (∀ j, j < nrK Mr (A.K k) (A.n k) → RefR Mr A (V.1 4 (adH Mr A k + hdK (A.K k) + 2 * niK Mr (A.K k) (A.n k) + j)) (M.1 127 (caH Mr A k + niK Mr (A.K k) (A.n k) + j)))
theorem OB.os {Mr : MS} {kc : Nat} {A : HG} {V M : MS} {k : Nat} (h0 : OB Mr kc A V M k) : 1 ≤ A.os k ∧ A.os k < 1002 := h0.1
theorem OB.ok {Mr : MS} {kc : Nat} {A : HG} {V M : MS} {k : Nat} (h0 : OB Mr kc A V M k) : KOk Mr kc (A.K k) (A.n k) := h0.2.1
theorem OB.m129 {Mr : MS} {kc : Nat} {A : HG} {V M : MS} {k : Nat} (h0 : OB Mr kc A V M k) : M.1 129 k = Int32.ofNat (A.os k) := h0.2.2.1
theorem OB.m121 {Mr : MS} {kc : Nat} {A : HG} {V M : MS} {k : Nat} (h0 : OB Mr kc A V M k) : M.1 121 (A.os k) = Int32.ofNat (A.K k) := h0.2.2.2.1
theorem OB.m122 {Mr : MS} {kc : Nat} {A : HG} {V M : MS} {k : Nat} (h0 : OB Mr kc A V M k) : M.1 122 (A.os k) = Int32.ofNat (A.n k) := h0.2.2.2.2.1
theorem OB.m123 {Mr : MS} {kc : Nat} {A : HG} {V M : MS} {k : Nat} (h0 : OB Mr kc A V M k) : M.1 123 (A.os k) = Int32.ofNat (caH Mr A k) := h0.2.2.2.2.2.1
theorem OB.mon {Mr : MS} {kc : Nat} {A : HG} {V M : MS} {k : Nat} (h0 : OB Mr kc A V M k) : ∃ e, e ≤ 60000 ∧ M.1 125 (A.os k) = Int32.ofNat e ∧ V.1 4 (adH Mr A k + 2) = Int32.ofNat e ∧ (e = 0 → V.1 4 (adH Mr A k + 1) = 0) ∧ (0 < e → ∃ w, w < 6 ∧ M.1 124 (A.os k) = Int32.ofNat w ∧ V.1 4 (adH Mr A k + 1) = Int32.ofNat (w + 1)) := h0.2.2.2.2.2.2.1
theorem OB.h0 {Mr : MS} {kc : Nat} {A : HG} {V M : MS} {k : Nat} (h0 : OB Mr kc A V M k) : V.1 4 (adH Mr A k) = Int32.ofNat (kcode Mr (A.K k)) := h0.2.2.2.2.2.2.2.1
theorem OB.h3 {Mr : MS} {kc : Nat} {A : HG} {V M : MS} {k : Nat} (h0 : OB Mr kc A V M k) : V.1 4 (adH Mr A k + 3) = 0 := h0.2.2.2.2.2.2.2.2.1
theorem OB.h4 {Mr : MS} {kc : Nat} {A : HG} {V M : MS} {k : Nat} (h0 : OB Mr kc A V M k) : 10 ≤ A.K k → V.1 4 (adH Mr A k + 4) = Int32.ofNat (A.n k) := h0.2.2.2.2.2.2.2.2.2.1
theorem OB.ints {Mr : MS} {kc : Nat} {A : HG} {V M : MS} {k : Nat} (h0 : OB Mr kc A V M k) : ∀ j, j < niK Mr (A.K k) (A.n k) → (V.1 4 (adH Mr A k + hdK (A.K k) + 2 * j) <<< ((16 : Int32) &&& 31)) ||| V.1 4 (adH Mr A k + hdK (A.K k) + 2 * j + 1) = M.1 127 (caH Mr A k + j) := h0.2.2.2.2.2.2.2.2.2.2.1
theorem OB.refs {Mr : MS} {kc : Nat} {A : HG} {V M : MS} {k : Nat} (h0 : OB Mr kc A V M k) : ∀ j, j < nrK Mr (A.K k) (A.n k) → RefR Mr A (V.1 4 (adH Mr A k + hdK (A.K k) + 2 * niK Mr (A.K k) (A.n k) + j)) (M.1 127 (caH Mr A k + niK Mr (A.K k) (A.n k) + j)) := h0.2.2.2.2.2.2.2.2.2.2.2
/-- the objects on both sides -/
def HR (Mr : MS) (kc : Nat) (A : HG) (hp : Nat) (V M : MS) : Prop := (∀ k, k < A.N → OB Mr kc A V M k) ∧ (∀ j k, j < A.N → k < A.N → A.os j = A.os k → j = k) ∧ (M.1 60 95 = Int32.ofNat A.N) ∧ (∀ o, 1 ≤ o → o < 1002 → (∃ k, k < A.N ∧ A.os k = o) ∨ M.1 121 o = -1) ∧ (∀ j, j < 4001 → ∃ w, w < 65536 ∧ V.1 4 j = Int32.ofNat w) ∧ (V.1 1041 7 = Int32.ofNat (adH Mr A A.N)) ∧ (V.1 1041 8 = Int32.ofNat hp ∧ M.1 60 59 = Int32.ofNat hp ∧ hp ≤ 8000 ∧ 2 * (adH Mr A A.N - 1) ≤ hp) ∧ (M.1 60 87 = Int32.ofNat (2 * (adH Mr A A.N - 1)) ∧ M.1 60 86 = Int32.ofNat (caH Mr A A.N)) ∧ (V.1 1041 0 = M.1 60 88) ∧ (∀ c, c < kc → fm Mr 77 c → V.1 1045 (kn Mr c) = Int32.ofNat (aI Mr c) ∧ V.1 1046 (kn Mr c) = Int32.ofNat (aF Mr c))
theorem HR.ob {Mr : MS} {kc : Nat} {A : HG} {hp : Nat} {V M : MS} (h0 : HR Mr kc A hp V M) : ∀ k, k < A.N → OB Mr kc A V M k := h0.1
theorem HR.inj {Mr : MS} {kc : Nat} {A : HG} {hp : Nat} {V M : MS} (h0 : HR Mr kc A hp V M) : ∀ j k, j < A.N → k < A.N → A.os j = A.os k → j = k := h0.2.1
theorem HR.m95 {Mr : MS} {kc : Nat} {A : HG} {hp : Nat} {V M : MS} (h0 : HR Mr kc A hp V M) : M.1 60 95 = Int32.ofNat A.N := h0.2.2.1
theorem HR.free {Mr : MS} {kc : Nat} {A : HG} {hp : Nat} {V M : MS} (h0 : HR Mr kc A hp V M) : ∀ o, 1 ≤ o → o < 1002 → (∃ k, k < A.N ∧ A.os k = o) ∨ M.1 121 o = -1 := h0.2.2.2.1
theorem HR.wd {Mr : MS} {kc : Nat} {A : HG} {hp : Nat} {V M : MS} (h0 : HR Mr kc A hp V M) : ∀ j, j < 4001 → ∃ w, w < 65536 ∧ V.1 4 j = Int32.ofNat w := h0.2.2.2.2.1
theorem HR.top {Mr : MS} {kc : Nat} {A : HG} {hp : Nat} {V M : MS} (h0 : HR Mr kc A hp V M) : V.1 1041 7 = Int32.ofNat (adH Mr A A.N) := h0.2.2.2.2.2.1
theorem HR.lim {Mr : MS} {kc : Nat} {A : HG} {hp : Nat} {V M : MS} (h0 : HR Mr kc A hp V M) : V.1 1041 8 = Int32.ofNat hp ∧ M.1 60 59 = Int32.ofNat hp ∧ hp ≤ 8000 ∧ 2 * (adH Mr A A.N - 1) ≤ hp := h0.2.2.2.2.2.2.1
theorem HR.used {Mr : MS} {kc : Nat} {A : HG} {hp : Nat} {V M : MS} (h0 : HR Mr kc A hp V M) : M.1 60 87 = Int32.ofNat (2 * (adH Mr A A.N - 1)) ∧ M.1 60 86 = Int32.ofNat (caH Mr A A.N) := h0.2.2.2.2.2.2.2.1
theorem HR.coll {Mr : MS} {kc : Nat} {A : HG} {hp : Nat} {V M : MS} (h0 : HR Mr kc A hp V M) : V.1 1041 0 = M.1 60 88 := h0.2.2.2.2.2.2.2.2.1
theorem HR.fld {Mr : MS} {kc : Nat} {A : HG} {hp : Nat} {V M : MS} (h0 : HR Mr kc A hp V M) : ∀ c, c < kc → fm Mr 77 c → V.1 1045 (kn Mr c) = Int32.ofNat (aI Mr c) ∧ V.1 1046 (kn Mr c) = Int32.ofNat (aF Mr c) := h0.2.2.2.2.2.2.2.2.2
set_option maxRecDepth 20000 in
set_option maxHeartbeats 4000000 in
theorem OB.congr {Mr : MS} {kc : Nat} {A : HG} {V M V' M' : MS} {k : Nat} (h : OB Mr kc A V M k) (h4 : V'.1 4 = V.1 4) (hM : ∀ a, 121 ≤ a → a ≤ 129 → a ≠ 126 → a ≠ 128 → M'.1 a = M.1 a) : OB Mr kc A V' M' k := by
  obtain ⟨o1, o2, o3, o4, o5, o6, o7, o8, o9, o10, o11, o12⟩ := h
  have e1 := hM 121 (by omega) (by omega) (by omega) (by omega)
  have e2 := hM 122 (by omega) (by omega) (by omega) (by omega)
  have e3 := hM 123 (by omega) (by omega) (by omega) (by omega)
  have e4 := hM 124 (by omega) (by omega) (by omega) (by omega)
  have e5 := hM 125 (by omega) (by omega) (by omega) (by omega)
  have e7 := hM 127 (by omega) (by omega) (by omega) (by omega)
  have e9 := hM 129 (by omega) (by omega) (by omega) (by omega)
  refine ⟨o1, o2, by rw [e9]; exact o3, by rw [e1]; exact o4, by rw [e2]; exact o5, by rw [e3]; exact o6, by rw [h4, e4, e5]; exact o7, by rw [h4]; exact o8, by rw [h4]; exact o9, by rw [h4]; exact o10, by rw [h4, e7]; exact o11, by rw [h4, e7]; exact o12⟩
set_option maxRecDepth 20000 in
set_option maxHeartbeats 4000000 in
theorem HR.congr {Mr : MS} {kc : Nat} {A : HG} {hp : Nat} {V M V' M' : MS} (h : HR Mr kc A hp V M) (hV : ∀ g, g = 4 ∨ g = 1041 ∨ g = 1045 ∨ g = 1046 → V'.1 g = V.1 g) (hM : ∀ a, 121 ≤ a → a ≤ 129 → a ≠ 126 → a ≠ 128 → M'.1 a = M.1 a) (h60 : ∀ f, f = 59 ∨ (86 ≤ f ∧ f ≤ 88) ∨ f = 95 → M'.1 60 f = M.1 60 f) : HR Mr kc A hp V' M' := by
  obtain ⟨o1, o2, o3, o4, o5, o6, o7, o8, o9, o10⟩ := h
  have v4 := hV 4 (by omega)
  have v41 := hV 1041 (by omega)
  have v45 := hV 1045 (by omega)
  have v46 := hV 1046 (by omega)
  have e1 := hM 121 (by omega) (by omega) (by omega) (by omega)
  have f1 := h60 59 (by omega)
  have f2 := h60 86 (by omega)
  have f3 := h60 87 (by omega)
  have f4 := h60 88 (by omega)
  have f5 := h60 95 (by omega)
  refine ⟨fun k hk => (o1 k hk).congr v4 hM, o2, ?_, ?_, ?_, ?_, ?_, ?_, ?_, ?_⟩ <;> simp only [v4, v41, v45, v46, e1, f1, f2, f3, f4, f5] <;> assumption
/-- a slot of a thread on both sides -/
def SlR (Mr : MS) (A : HG) (V M : MS) (t s : Nat) : Prop := (M.1 116 (440 * t + s) = 0 ∧ V.1 (606 + 16 * t) s = 0 ∧ V.1 (605 + 16 * t) s = M.1 115 (440 * t + s)) ∨ (M.1 116 (440 * t + s) = 1 ∧ V.1 (606 + 16 * t) s = 1 ∧ RefR Mr A (V.1 (605 + 16 * t) s) (M.1 115 (440 * t + s)))
def kd (x : Int32) : Int32 := if x = 0 then 1 else 2
/-- a method's frame on both sides, with the kinds of its stack and of its locals -/
def FrR (Mr : MS) (A : HG) (V M : MS) (t k : Nat) (g : Nat → Int32) (h : Nat) (l : Nat → Int32) : Prop := (h ≤ 10) ∧ (∀ s, s < 12 → SlR Mr A V M t (22 * k + s) ∧ leK (l s) (kd (M.1 116 (440 * t + (22 * k + s))))) ∧ (∀ j, j < h → SlR Mr A V M t (22 * k + 12 + j) ∧ g j = kd (M.1 116 (440 * t + (22 * k + 12 + j)))) ∧ (∀ j, h ≤ j → j < 10 → V.1 (606 + 16 * t) (22 * k + 12 + j) = 0)
theorem FrR.le {Mr : MS} {A : HG} {V M : MS} {t k : Nat} {g : Nat → Int32} {h : Nat} {l : Nat → Int32} (h0 : FrR Mr A V M t k g h l) : h ≤ 10 := h0.1
theorem FrR.loc {Mr : MS} {A : HG} {V M : MS} {t k : Nat} {g : Nat → Int32} {h : Nat} {l : Nat → Int32} (h0 : FrR Mr A V M t k g h l) : ∀ s, s < 12 → SlR Mr A V M t (22 * k + s) ∧ leK (l s) (kd (M.1 116 (440 * t + (22 * k + s)))) := h0.2.1
theorem FrR.stk {Mr : MS} {A : HG} {V M : MS} {t k : Nat} {g : Nat → Int32} {h : Nat} {l : Nat → Int32} (h0 : FrR Mr A V M t k g h l) : ∀ j, j < h → SlR Mr A V M t (22 * k + 12 + j) ∧ g j = kd (M.1 116 (440 * t + (22 * k + 12 + j))) := h0.2.2.1
theorem FrR.up {Mr : MS} {A : HG} {V M : MS} {t k : Nat} {g : Nat → Int32} {h : Nat} {l : Nat → Int32} (h0 : FrR Mr A V M t k g h l) : ∀ j, h ≤ j → j < 10 → V.1 (606 + 16 * t) (22 * k + 12 + j) = 0 := h0.2.2.2
set_option maxRecDepth 20000 in
set_option maxHeartbeats 4000000 in
theorem SlR.congr {Mr : MS} {A : HG} {V M V' M' : MS} {t s : Nat} (h : SlR Mr A V M t s) (h5 : V'.1 (605 + 16 * t) s = V.1 (605 + 16 * t) s) (h6 : V'.1 (606 + 16 * t) s = V.1 (606 + 16 * t) s) (m5 : M'.1 115 (440 * t + s) = M.1 115 (440 * t + s)) (m6 : M'.1 116 (440 * t + s) = M.1 116 (440 * t + s)) : SlR Mr A V' M' t s := by
  unfold SlR
  rw [h5, h6, m5, m6]
  exact h
set_option maxRecDepth 20000 in
set_option maxHeartbeats 4000000 in
theorem FrR.congr {Mr : MS} {A : HG} {V M V' M' : MS} {t k : Nat} {g : Nat → Int32} {h : Nat} {l : Nat → Int32} (f : FrR Mr A V M t k g h l) (h5 : ∀ s, s < 22 → V'.1 (605 + 16 * t) (22 * k + s) = V.1 (605 + 16 * t) (22 * k + s)) (h6 : ∀ s, s < 22 → V'.1 (606 + 16 * t) (22 * k + s) = V.1 (606 + 16 * t) (22 * k + s)) (m5 : ∀ s, s < 22 → M'.1 115 (440 * t + (22 * k + s)) = M.1 115 (440 * t + (22 * k + s))) (m6 : ∀ s, s < 22 → M'.1 116 (440 * t + (22 * k + s)) = M.1 116 (440 * t + (22 * k + s))) : FrR Mr A V' M' t k g h l := by
  obtain ⟨f1, f2, f3, f4⟩ := f
  refine ⟨f1, ?_, ?_, ?_⟩
  · intro s hs
    rw [m6 s (by omega)]
    exact ⟨(f2 s hs).1.congr (h5 s (by omega)) (h6 s (by omega)) (m5 s (by omega)) (m6 s (by omega)), (f2 s hs).2⟩
  · intro j hj
    have q := f3 j hj
    rw [show 22 * k + 12 + j = 22 * k + (12 + j) by omega] at q ⊢
    rw [m6 _ (by omega)]
    exact ⟨q.1.congr (h5 _ (by omega)) (h6 _ (by omega)) (m5 _ (by omega)) (m6 _ (by omega)), q.2⟩
  · intro j h1 h2
    rw [show 22 * k + 12 + j = 22 * k + (12 + j) by omega, h6 _ (by omega), ← show 22 * k + 12 + j = 22 * k + (12 + j) by omega]
    exact f4 j h1 h2
/-- a reached method and what is known of its instructions -/
def MT (Mr : MS) (kc rc m : Nat) (S : FS) : Prop := m < 24 ∧ fm Mr 75 m ∧ TyM Mr kc rc Mr m S
/-- a frame that waits for a call to return -/
def SuR (Mr : MS) (kc rc : Nat) (A : HG) (V M : MS) (t k : Nat) : Prop := ∃ m i h S g' h' l', MT Mr kc rc m S ∧ S.1 i = true ∧ M.1 112 (20 * t + k) = Int32.ofNat m ∧ M.1 113 (20 * t + k) = Int32.ofNat i ∧ M.1 114 (20 * t + k) = Int32.ofNat h ∧ V.1 (609 + 16 * t) k = Int32.ofNat (rn Mr m) ∧ V.1 (610 + 16 * t) k = Int32.ofNat (caN Mr m + off Mr m i) ∧ V.1 (611 + 16 * t) k = Int32.ofNat h ∧ FrR Mr A V M t k (S.2.2.2.1 i) h (S.2.2.2.2.1 i) ∧ putT (Mr.1 68 (M.1 112 (20 * t + (k + 1))).toNatClampNeg) (S.2.2.2.1 i) h (S.2.2.2.2.1 i) = some (g', h', l') ∧ Cov S (i + 1) g' h' l' ∧ (opN Mr m i = 38 ∨ opN Mr m i = 39)
/-- the frame that is at work -/
def TpR (Mr : MS) (A : HG) (V M : MS) (t d m i : Nat) (g : Nat → Int32) (h : Nat) (l : Nat → Int32) : Prop := (d < 20) ∧ (M.1 109 t = Int32.ofNat (d + 1)) ∧ (V.1 (600 + 16 * t) 2 = Int32.ofNat (d + 1)) ∧ (M.1 112 (20 * t + d) = Int32.ofNat m) ∧ (M.1 113 (20 * t + d) = Int32.ofNat i) ∧ (M.1 114 (20 * t + d) = Int32.ofNat h) ∧ (V.1 (600 + 16 * t) 3 = Int32.ofNat (rn Mr m)) ∧ (V.1 (600 + 16 * t) 4 = Int32.ofNat (caN Mr m + off Mr m i)) ∧ (V.1 (600 + 16 * t) 7 = Int32.ofNat (22 * d + 12)) ∧ (V.1 (600 + 16 * t) 8 = Int32.ofNat h) ∧ (FrR Mr A V M t d g h l) ∧ (M.1 110 t = 0 ∧ V.1 (600 + 16 * t) 0 = 0) ∧ (M.1 111 t = 0 ∧ V.1 (600 + 16 * t) 1 = 0)
theorem TpR.d20 {Mr : MS} {A : HG} {V M : MS} {t d m i : Nat} {g : Nat → Int32} {h : Nat} {l : Nat → Int32} (h0 : TpR Mr A V M t d m i g h l) : d < 20 := h0.1
theorem TpR.m109 {Mr : MS} {A : HG} {V M : MS} {t d m i : Nat} {g : Nat → Int32} {h : Nat} {l : Nat → Int32} (h0 : TpR Mr A V M t d m i g h l) : M.1 109 t = Int32.ofNat (d + 1) := h0.2.1
theorem TpR.v2 {Mr : MS} {A : HG} {V M : MS} {t d m i : Nat} {g : Nat → Int32} {h : Nat} {l : Nat → Int32} (h0 : TpR Mr A V M t d m i g h l) : V.1 (600 + 16 * t) 2 = Int32.ofNat (d + 1) := h0.2.2.1
theorem TpR.m112 {Mr : MS} {A : HG} {V M : MS} {t d m i : Nat} {g : Nat → Int32} {h : Nat} {l : Nat → Int32} (h0 : TpR Mr A V M t d m i g h l) : M.1 112 (20 * t + d) = Int32.ofNat m := h0.2.2.2.1
theorem TpR.m113 {Mr : MS} {A : HG} {V M : MS} {t d m i : Nat} {g : Nat → Int32} {h : Nat} {l : Nat → Int32} (h0 : TpR Mr A V M t d m i g h l) : M.1 113 (20 * t + d) = Int32.ofNat i := h0.2.2.2.2.1
theorem TpR.m114 {Mr : MS} {A : HG} {V M : MS} {t d m i : Nat} {g : Nat → Int32} {h : Nat} {l : Nat → Int32} (h0 : TpR Mr A V M t d m i g h l) : M.1 114 (20 * t + d) = Int32.ofNat h := h0.2.2.2.2.2.1
theorem TpR.v3 {Mr : MS} {A : HG} {V M : MS} {t d m i : Nat} {g : Nat → Int32} {h : Nat} {l : Nat → Int32} (h0 : TpR Mr A V M t d m i g h l) : V.1 (600 + 16 * t) 3 = Int32.ofNat (rn Mr m) := h0.2.2.2.2.2.2.1
theorem TpR.v4 {Mr : MS} {A : HG} {V M : MS} {t d m i : Nat} {g : Nat → Int32} {h : Nat} {l : Nat → Int32} (h0 : TpR Mr A V M t d m i g h l) : V.1 (600 + 16 * t) 4 = Int32.ofNat (caN Mr m + off Mr m i) := h0.2.2.2.2.2.2.2.1
theorem TpR.v7 {Mr : MS} {A : HG} {V M : MS} {t d m i : Nat} {g : Nat → Int32} {h : Nat} {l : Nat → Int32} (h0 : TpR Mr A V M t d m i g h l) : V.1 (600 + 16 * t) 7 = Int32.ofNat (22 * d + 12) := h0.2.2.2.2.2.2.2.2.1
theorem TpR.v8 {Mr : MS} {A : HG} {V M : MS} {t d m i : Nat} {g : Nat → Int32} {h : Nat} {l : Nat → Int32} (h0 : TpR Mr A V M t d m i g h l) : V.1 (600 + 16 * t) 8 = Int32.ofNat h := h0.2.2.2.2.2.2.2.2.2.1
theorem TpR.fr {Mr : MS} {A : HG} {V M : MS} {t d m i : Nat} {g : Nat → Int32} {h : Nat} {l : Nat → Int32} (h0 : TpR Mr A V M t d m i g h l) : FrR Mr A V M t d g h l := h0.2.2.2.2.2.2.2.2.2.2.1
theorem TpR.al {Mr : MS} {A : HG} {V M : MS} {t d m i : Nat} {g : Nat → Int32} {h : Nat} {l : Nat → Int32} (h0 : TpR Mr A V M t d m i g h l) : M.1 110 t = 0 ∧ V.1 (600 + 16 * t) 0 = 0 := h0.2.2.2.2.2.2.2.2.2.2.2.1
theorem TpR.fl {Mr : MS} {A : HG} {V M : MS} {t d m i : Nat} {g : Nat → Int32} {h : Nat} {l : Nat → Int32} (h0 : TpR Mr A V M t d m i g h l) : M.1 111 t = 0 ∧ V.1 (600 + 16 * t) 1 = 0 := h0.2.2.2.2.2.2.2.2.2.2.2.2
/-- a thread -/
def ThR (Mr : MS) (kc rc : Nat) (A : HG) (V M : MS) (t : Nat) : Prop := (∃ d m i S, MT Mr kc rc m S ∧ S.1 i = true ∧ TpR Mr A V M t d m i (S.2.2.2.1 i) (S.2.2.1 i) (S.2.2.2.2.1 i) ∧ ∀ k, k < d → SuR Mr kc rc A V M t k) ∨ (M.1 109 t = 0 ∧ V.1 (600 + 16 * t) 2 = 0 ∧ M.1 111 t = V.1 (600 + 16 * t) 1 ∧ ((M.1 110 t = 2 ∧ V.1 (600 + 16 * t) 0 = 1) ∨ (M.1 110 t = 3 ∧ V.1 (600 + 16 * t) 0 = 2)))
set_option maxRecDepth 20000 in
set_option maxHeartbeats 4000000 in
theorem SuR.congr {Mr : MS} {kc rc : Nat} {A : HG} {V M V' M' : MS} {t k : Nat} (f : SuR Mr kc rc A V M t k) (h5 : ∀ s, s < 22 → V'.1 (605 + 16 * t) (22 * k + s) = V.1 (605 + 16 * t) (22 * k + s)) (h6 : ∀ s, s < 22 → V'.1 (606 + 16 * t) (22 * k + s) = V.1 (606 + 16 * t) (22 * k + s)) (h9 : V'.1 (609 + 16 * t) k = V.1 (609 + 16 * t) k) (h10 : V'.1 (610 + 16 * t) k = V.1 (610 + 16 * t) k) (h11 : V'.1 (611 + 16 * t) k = V.1 (611 + 16 * t) k) (m5 : ∀ s, s < 22 → M'.1 115 (440 * t + (22 * k + s)) = M.1 115 (440 * t + (22 * k + s))) (m6 : ∀ s, s < 22 → M'.1 116 (440 * t + (22 * k + s)) = M.1 116 (440 * t + (22 * k + s))) (m2 : M'.1 112 (20 * t + k) = M.1 112 (20 * t + k)) (m2' : M'.1 112 (20 * t + (k + 1)) = M.1 112 (20 * t + (k + 1))) (m3 : M'.1 113 (20 * t + k) = M.1 113 (20 * t + k)) (m4 : M'.1 114 (20 * t + k) = M.1 114 (20 * t + k)) : SuR Mr kc rc A V' M' t k := by
  obtain ⟨m, i, h, S, g', h', l', s1, s2, s3, s4, s5, s6, s7, s8, s9, s10, s11, s12⟩ := f
  refine ⟨m, i, h, S, g', h', l', s1, s2, ?_, ?_, ?_, ?_, ?_, ?_, s9.congr h5 h6 m5 m6, ?_, s11, s12⟩
  · rw [m2]; exact s3
  · rw [m3]; exact s4
  · rw [m4]; exact s5
  · rw [h9]; exact s6
  · rw [h10]; exact s7
  · rw [h11]; exact s8
  · rw [m2']; exact s10
set_option maxRecDepth 20000 in
set_option maxHeartbeats 4000000 in
theorem ThR.congr {Mr : MS} {kc rc : Nat} {A : HG} {V M V' M' : MS} {t : Nat} (f : ThR Mr kc rc A V M t) (hV : ∀ j, j < 16 → V'.1 (600 + j + 16 * t) = V.1 (600 + j + 16 * t)) (h1 : ∀ a, 109 ≤ a → a ≤ 111 → M'.1 a t = M.1 a t) (h2 : ∀ a k, 112 ≤ a → a ≤ 114 → k < 20 → M'.1 a (20 * t + k) = M.1 a (20 * t + k)) (h3 : ∀ a s, 115 ≤ a → a ≤ 116 → s < 440 → M'.1 a (440 * t + s) = M.1 a (440 * t + s)) : ThR Mr kc rc A V' M' t := by
  have v0 : V'.1 (600 + 16 * t) = V.1 (600 + 16 * t) := hV 0 (by omega)
  have v5 : V'.1 (605 + 16 * t) = V.1 (605 + 16 * t) := hV 5 (by omega)
  have v6 : V'.1 (606 + 16 * t) = V.1 (606 + 16 * t) := hV 6 (by omega)
  have v9 : V'.1 (609 + 16 * t) = V.1 (609 + 16 * t) := hV 9 (by omega)
  have v10 : V'.1 (610 + 16 * t) = V.1 (610 + 16 * t) := hV 10 (by omega)
  have v11 : V'.1 (611 + 16 * t) = V.1 (611 + 16 * t) := hV 11 (by omega)
  have e9 := h1 109 (by omega) (by omega)
  have e10 := h1 110 (by omega) (by omega)
  have e11 := h1 111 (by omega) (by omega)
  rcases f with ⟨d, m, i, S, a1, a2, ⟨t0, t1, t2, t3, t4, t5, t6, t7, t8, t9, t10, t11, t12⟩, a4⟩ | ⟨d1, d2, d3, d4⟩
  · refine Or.inl ⟨d, m, i, S, a1, a2, ⟨t0, ?_, ?_, ?_, ?_, ?_, ?_, ?_, ?_, ?_, ?_, ?_, ?_⟩, ?_⟩
    · rw [e9]; exact t1
    · rw [v0]; exact t2
    · rw [h2 112 d (by omega) (by omega) t0]; exact t3
    · rw [h2 113 d (by omega) (by omega) t0]; exact t4
    · rw [h2 114 d (by omega) (by omega) t0]; exact t5
    · rw [v0]; exact t6
    · rw [v0]; exact t7
    · rw [v0]; exact t8
    · rw [v0]; exact t9
    · exact t10.congr (fun s hs => by rw [v5]) (fun s hs => by rw [v6]) (fun s hs => h3 115 _ (by omega) (by omega) (by omega)) (fun s hs => h3 116 _ (by omega) (by omega) (by omega))
    · rw [e10, v0]; exact t11
    · rw [e11, v0]; exact t12
    · intro k hk
      exact (a4 k hk).congr (fun s hs => by rw [v5]) (fun s hs => by rw [v6]) (by rw [v9]) (by rw [v10]) (by rw [v11]) (fun s hs => h3 115 _ (by omega) (by omega) (by omega)) (fun s hs => h3 116 _ (by omega) (by omega) (by omega)) (h2 112 k (by omega) (by omega) (by omega)) (h2 112 (k + 1) (by omega) (by omega) (by omega)) (h2 113 k (by omega) (by omega) (by omega)) (h2 114 k (by omega) (by omega) (by omega))
  · refine Or.inr ⟨?_, ?_, ?_, ?_⟩
    · rw [e9]; exact d1
    · rw [v0]; exact d2
    · rw [e11, v0]; exact d3
    · rw [e10, v0]; exact d4
