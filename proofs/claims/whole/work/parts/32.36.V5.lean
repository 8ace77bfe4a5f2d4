/-! V5 -/
/-- what is known when the class's machine has been booted -/
def BV (Mr : MS) (kc main hp n : Nat) (q : Int32) (V : MS) : Prop := (∀ j, j < 4001 → ∃ w, w < 65536 ∧ V.1 4 j = Int32.ofNat w) ∧ (∀ c, c < kc → fm Mr 77 c → V.1 1045 (kn Mr c) = Int32.ofNat (aI Mr c) ∧ V.1 1046 (kn Mr c) = Int32.ofNat (aF Mr c)) ∧ (V.1 1041 8 = Int32.ofNat hp ∧ V.1 1041 7 = 1 ∧ V.1 1041 0 = 0) ∧ (V.1 1047 0 = 0 ∧ V.1 1047 2 = 0 ∧ V.1 1047 1 = 0) ∧ (∀ k, k < 8 → V.1 1056 k = 0 ∧ V.1 1057 k = 0 ∧ V.1 1058 k = 1) ∧ (V.1 1040 0 = 1 ∧ V.1 1040 2 = 1) ∧ (V.1 1059 4 = q ∧ V.1 1059 3 = q ∧ V.1 1059 2 = 0 ∧ V.1 1059 0 = 0) ∧ (V.1 600 0 = 0 ∧ V.1 600 1 = 0 ∧ V.1 600 2 = 1 ∧ V.1 600 3 = Int32.ofNat (rn Mr main) ∧ V.1 600 4 = Int32.ofNat (caN Mr main) ∧ V.1 600 7 = 12 ∧ V.1 600 8 = 0) ∧ (∀ j, j < 22 → V.1 605 j = 0) ∧ (∀ j, j < 22 → V.1 606 j = 0) ∧ (1 ≤ n)
theorem BV.wd {Mr : MS} {kc main hp n : Nat} {q : Int32} {V : MS} (h0 : BV Mr kc main hp n q V) : ∀ j, j < 4001 → ∃ w, w < 65536 ∧ V.1 4 j = Int32.ofNat w := h0.1
theorem BV.fl {Mr : MS} {kc main hp n : Nat} {q : Int32} {V : MS} (h0 : BV Mr kc main hp n q V) : ∀ c, c < kc → fm Mr 77 c → V.1 1045 (kn Mr c) = Int32.ofNat (aI Mr c) ∧ V.1 1046 (kn Mr c) = Int32.ofNat (aF Mr c) := h0.2.1
theorem BV.me {Mr : MS} {kc main hp n : Nat} {q : Int32} {V : MS} (h0 : BV Mr kc main hp n q V) : V.1 1041 8 = Int32.ofNat hp ∧ V.1 1041 7 = 1 ∧ V.1 1041 0 = 0 := h0.2.2.1
theorem BV.po {Mr : MS} {kc main hp n : Nat} {q : Int32} {V : MS} (h0 : BV Mr kc main hp n q V) : V.1 1047 0 = 0 ∧ V.1 1047 2 = 0 ∧ V.1 1047 1 = 0 := h0.2.2.2.1
theorem BV.ss {Mr : MS} {kc main hp n : Nat} {q : Int32} {V : MS} (h0 : BV Mr kc main hp n q V) : ∀ k, k < 8 → V.1 1056 k = 0 ∧ V.1 1057 k = 0 ∧ V.1 1058 k = 1 := h0.2.2.2.2.1
theorem BV.en {Mr : MS} {kc main hp n : Nat} {q : Int32} {V : MS} (h0 : BV Mr kc main hp n q V) : V.1 1040 0 = 1 ∧ V.1 1040 2 = 1 := h0.2.2.2.2.2.1
theorem BV.tu {Mr : MS} {kc main hp n : Nat} {q : Int32} {V : MS} (h0 : BV Mr kc main hp n q V) : V.1 1059 4 = q ∧ V.1 1059 3 = q ∧ V.1 1059 2 = 0 ∧ V.1 1059 0 = 0 := h0.2.2.2.2.2.2.1
theorem BV.s0 {Mr : MS} {kc main hp n : Nat} {q : Int32} {V : MS} (h0 : BV Mr kc main hp n q V) : V.1 600 0 = 0 ∧ V.1 600 1 = 0 ∧ V.1 600 2 = 1 ∧ V.1 600 3 = Int32.ofNat (rn Mr main) ∧ V.1 600 4 = Int32.ofNat (caN Mr main) ∧ V.1 600 7 = 12 ∧ V.1 600 8 = 0 := h0.2.2.2.2.2.2.2.1
theorem BV.s5 {Mr : MS} {kc main hp n : Nat} {q : Int32} {V : MS} (h0 : BV Mr kc main hp n q V) : ∀ j, j < 22 → V.1 605 j = 0 := h0.2.2.2.2.2.2.2.2.1
theorem BV.s6 {Mr : MS} {kc main hp n : Nat} {q : Int32} {V : MS} (h0 : BV Mr kc main hp n q V) : ∀ j, j < 22 → V.1 606 j = 0 := h0.2.2.2.2.2.2.2.2.2.1
theorem BV.n1 {Mr : MS} {kc main hp n : Nat} {q : Int32} {V : MS} (h0 : BV Mr kc main hp n q V) : 1 ≤ n := h0.2.2.2.2.2.2.2.2.2.2
set_option maxRecDepth 20000 in
set_option maxHeartbeats 4000000 in
theorem startX {Mr : MS} {kc rc main : Nat} (gp : GP Mr kc rc main) {X : XS} {T : Nat → Nat} (hI : ImO Mr rc main X T) (ht : TG T) (bx : BX X T) (hp : Nat) (q : Int32) : ∃ X0 T0 X6 X' T' C n V, f_Engine_start_30 (Int32.ofNat hp) X = some X6 ∧ f_Turns_start q X6 = some X' ∧ TG T0 ∧ IM Mr rc main X0 T0 ∧ RV X0 T0 X' T' C n V ∧ Mo T T0 X X0 ∧ Un (fun g => ¬ CopT g ∧ g ≠ 1041) T X X0 ∧ BV Mr kc main hp n q V := by
  obtain ⟨b51, b58, b3⟩ := bx
  obtain ⟨X1, T1, c1, c2, c3, c4, c5⟩ := copy_ok hI (imgL_le main gp.2.1).1 ht b51
  have hge := xA130 X
  have u1 : ∀ a, a = 41 ∨ a = 50 ∨ a = 58 → X1.1 a = X.1 a ∧ X1.2.1 a = X.2.1 a := fun a ha => c5 a (by omega) (by rw [ht a (by omega) (by omega) (by omega) (by omega) (by omega) (by omega) (by omega)]; unfold CopT; omega)
  have b3' : (∃ b, X1.2.1 41 1 = some b ∧ xT X1 b = some (2, 0) ∧ ∀ t, t < 6 → X1.2.1 50 t = none) ∨ ∃ C n V, RV X1 T1 X1 T1 C n V ∧ ∀ j, j < 4001 → ∃ w, w < 65536 ∧ V.1 4 j = Int32.ofNat w := by
    rcases b3 with ⟨b, a1, a2, a3⟩ | ⟨C, n, V, r, w⟩
    · exact Or.inl ⟨b, by rw [(u1 41 (by omega)).2]; exact a1, c4.2.2 _ _ a2, by rw [(u1 50 (by omega)).2]; exact a3⟩
    · exact Or.inr ⟨C, n, V, r.re c4.w c3 c5 (by intro g hg; unfold RunT at hg; unfold CopT; omega), w⟩
  obtain ⟨a1, n3, d1, d2, X2, T2, C, n, V2, d3, r2, w2, d4, d5, d6⟩ := memRows c3 b3'
  have im2 : IM Mr rc main X2 T2 := IMu c2 c3 d4.w d6 (by omega) (by omega) (by omega) (by omega) (by omega)
  obtain ⟨X3, V3, e1, r3, e2, e3⟩ := memLoop gp d5 im2 10000 0 X2 V2 (by omega) (by omega) r2 (fun c _ _ h => absurd h (Nat.not_lt_zero _))
  have f41 : Fx 41 := by unfold Fx; omega
  have f47 : Fx 47 := by unfold Fx; omega
  have f40 : Fx 40 := by unfold Fx; omega
  have f59 : Fx 59 := by unfold Fx; omega
  have r4 := ((r3.f f41 8 (Int32.ofNat hp)).f f41 7 1).f f41 0 0
  have r5 := ((r4.f f47 0 0).f f47 2 0).f f47 1 0
  obtain ⟨X6, V6, g1, r6, g2, g3⟩ := fill56 10000 0 _ _ (by omega) (by omega) r5 (fun k h => absurd h (Nat.not_lt_zero _))
  obtain ⟨X7, V7, h1, r7, h2, h3⟩ := fill57 10000 0 _ _ (by omega) (by omega) r6 (fun k h => absurd h (Nat.not_lt_zero _))
  have r8 := ((r7.f f40 0 1).f f40 10 0).f f40 2 0
  have hR := gp.2.2.1
  have hr24 := (gp_k10 gp).2
  obtain ⟨X9, T9, C9, n9, V9, i1, r9, i3, i4, i5, i6, i7, i8, i9, i10, i11, i12, i13, i14, i15⟩ := begStr gp d5 im2 r8 (nb := 0) (rr := main) (by omega) (by omega) (by rw [mw1, if_pos ⟨rfl, rfl⟩]; rfl) (by have := hR.1; omega) hR.2.1 0 0
  have r10 := (((r9.f f59 4 q).f f59 3 q).f f59 2 0).f f59 0 0
  have st : f_Engine_start_30 (Int32.ofNat hp) X = some X9 := by
    have ms : f_Memory_start_51 (Int32.ofNat hp) X1 = some (xw (xw (xw X3 41 8 (Int32.ofNat hp)) 41 7 1) 41 0 0) := by
      unfold f_Memory_start_51
      refine (Ez d1).trans ((Ez d2).trans ?_)
      rw [d3, Option.bind_some]
      have e1' : lp b40_Memory_start_51 10000 ((0 : Int32), X2) = some (Int32.ofNat 10, X3) := e1
      rw [e1', Option.bind_some]
    have g1' : f_Arrays_fill_562 0 (xw (xw (xw (xw (xw (xw X3 41 8 (Int32.ofNat hp)) 41 7 1) 41 0 0) 47 0 0) 47 2 0) 47 1 0) = some X6 := by
      unfold f_Arrays_fill_562
      have : lp (b5_Arrays_fill_562 0) 10000 ((0 : Int32), xw (xw (xw (xw (xw (xw X3 41 8 (Int32.ofNat hp)) 41 7 1) 41 0 0) 47 0 0) 47 2 0) 47 1 0) = some (Int32.ofNat 8, X6) := g1
      rw [this, Option.bind_some]
    have h1' : f_Arrays_fill_572 0 X6 = some X7 := by
      unfold f_Arrays_fill_572
      have : lp (b5_Arrays_fill_572 0) 10000 ((0 : Int32), X6) = some (Int32.ofNat 8, X7) := h1
      rw [this, Option.bind_some]
    unfold f_Engine_start_30
    rw [c1, Option.bind_some, ms, Option.bind_some]
    unfold f_Ports_clear
    dsimp only [lt]
    rw [Option.bind_some, g1', Option.bind_some, h1', Option.bind_some]
    rw [main_51 (r8.im d5 im2) gp, Option.bind_some, i1, Option.bind_some]
  refine ⟨X2, T2, X9, _, T9, C9, n9, _, st, rfl, d5, im2, r10, c4.trans d4, ?_, ?_⟩
  · have q1 : Un (fun g => ¬ CopT g ∧ g ≠ 1041) T X X1 := c5.mono (fun g hg => hg.1)
    have q2 : Un (fun g => ¬ CopT g ∧ g ≠ 1041) T1 X1 X2 := d6.mono (fun g hg => hg.2)
    exact q1.trans c4 q2
  have is0 : ∀ g, isS 0 g → 600 ≤ g ∧ g ≤ 611 := by intro g hg; unfold isS at hg; omega
  have v9 : ∀ g, ¬ (600 ≤ g ∧ g ≤ 611) → g ≠ 1040 → V9.1 g = (mw (mw (mw V7 1040 0 1) 1040 10 0) 1040 2 0).1 g := fun g h1 h2 => i5 g (fun hh => h1 (is0 g hh)) h2
  have v7 : ∀ g, ¬ (600 ≤ g ∧ g ≤ 611) → g ≠ 1040 → V9.1 g = V7.1 g := fun g h1 h2 => by rw [v9 g h1 h2, mwr _ _ _ (by omega), mwr _ _ _ (by omega), mwr _ _ _ (by omega)]
  have v5 : ∀ g, ¬ (600 ≤ g ∧ g ≤ 611) → g ≠ 1040 → g ≠ 1056 → g ≠ 1057 → V9.1 g = (mw (mw (mw (mw (mw (mw V3 1041 8 (Int32.ofNat hp)) 1041 7 1) 1041 0 0) 1047 0 0) 1047 2 0) 1047 1 0).1 g := fun g h1 h2' h3' h4' => by rw [v7 g h1 h2', h2 g h4', g2 g h3']
  have v3 : ∀ g, ¬ (600 ≤ g ∧ g ≤ 611) → g ≠ 1040 → g ≠ 1056 → g ≠ 1057 → g ≠ 1041 → g ≠ 1047 → V9.1 g = V3.1 g := fun g h1 h2 h3 h4 h5 h6 => by rw [v5 g h1 h2 h3 h4, mwr _ _ _ h6, mwr _ _ _ h6, mwr _ _ _ h6, mwr _ _ _ h5, mwr _ _ _ h5, mwr _ _ _ h5]
  have v10 : ∀ g, g ≠ 1059 → (mw (mw (mw (mw V9 1059 4 q) 1059 3 q) 1059 2 0) 1059 0 0).1 g = V9.1 g := fun g hg => by rw [mwr _ _ _ hg, mwr _ _ _ hg, mwr _ _ _ hg, mwr _ _ _ hg]
  refine ⟨?_, ?_, ?_, ?_, ?_, ?_, ?_, ?_, ?_, ?_, ?_⟩
  · intro j hj
    show ∃ w, w < 65536 ∧ (mw (mw (mw (mw V9 1059 4 q) 1059 3 q) 1059 2 0) 1059 0 0).1 4 j = Int32.ofNat w
    rw [v10 4 (by omega), v3 4 (by omega) (by omega) (by omega) (by omega) (by omega) (by omega), e2 4 (by omega) (by omega)]
    exact w2 j hj
  · intro c h4 h5
    show (mw (mw (mw (mw V9 1059 4 q) 1059 3 q) 1059 2 0) 1059 0 0).1 1045 _ = _ ∧ (mw (mw (mw (mw V9 1059 4 q) 1059 3 q) 1059 2 0) 1059 0 0).1 1046 _ = _
    rw [v10 1045 (by omega), v10 1046 (by omega), v3 1045 (by omega) (by omega) (by omega) (by omega) (by omega) (by omega), v3 1046 (by omega) (by omega) (by omega) (by omega) (by omega) (by omega)]
    exact e3 c h4 h5
  · show (mw (mw (mw (mw V9 1059 4 q) 1059 3 q) 1059 2 0) 1059 0 0).1 1041 8 = _ ∧ (mw (mw (mw (mw V9 1059 4 q) 1059 3 q) 1059 2 0) 1059 0 0).1 1041 7 = _ ∧ (mw (mw (mw (mw V9 1059 4 q) 1059 3 q) 1059 2 0) 1059 0 0).1 1041 0 = _
    rw [v10 1041 (by omega), v5 1041 (by omega) (by omega) (by omega) (by omega)]
    refine ⟨?_, ?_, ?_⟩ <;> simp [mw1]
  · show (mw (mw (mw (mw V9 1059 4 q) 1059 3 q) 1059 2 0) 1059 0 0).1 1047 0 = _ ∧ (mw (mw (mw (mw V9 1059 4 q) 1059 3 q) 1059 2 0) 1059 0 0).1 1047 2 = _ ∧ (mw (mw (mw (mw V9 1059 4 q) 1059 3 q) 1059 2 0) 1059 0 0).1 1047 1 = _
    rw [v10 1047 (by omega), v5 1047 (by omega) (by omega) (by omega) (by omega)]
    refine ⟨?_, ?_, ?_⟩ <;> simp [mw1]
  · intro k hk
    show (mw (mw (mw (mw V9 1059 4 q) 1059 3 q) 1059 2 0) 1059 0 0).1 1056 k = _ ∧ (mw (mw (mw (mw V9 1059 4 q) 1059 3 q) 1059 2 0) 1059 0 0).1 1057 k = _ ∧ (mw (mw (mw (mw V9 1059 4 q) 1059 3 q) 1059 2 0) 1059 0 0).1 1058 k = _
    rw [v10 1056 (by omega), v10 1057 (by omega), v10 1058 (by omega), v7 1056 (by omega) (by omega), v7 1057 (by omega) (by omega), h2 1056 (by omega)]
    refine ⟨g3 k hk, h3 k hk, ?_⟩
    rw [v3 1058 (by omega) (by omega) (by omega) (by omega) (by omega) (by omega), e2 1058 (by omega) (by omega)]
    have e58 : X2.1 58 = V2.1 1058 := r2.rf (a := 58) (by unfold Fx; omega)
    have k1 : X2.1 58 = X1.1 58 := (d6 58 (by have := xA130 X1; omega) (by rw [c3 58 (by omega) (by omega) (by omega) (by omega) (by omega) (by omega) (by omega)]; omega)).1
    rw [← e58, k1, (u1 58 (by omega)).1]
    exact b58 k hk
  · show (mw (mw (mw (mw V9 1059 4 q) 1059 3 q) 1059 2 0) 1059 0 0).1 1040 0 = _ ∧ (mw (mw (mw (mw V9 1059 4 q) 1059 3 q) 1059 2 0) 1059 0 0).1 1040 2 = _
    rw [v10 1040 (by omega), i6 0, i6 2, if_neg (by omega), if_pos rfl]
    refine ⟨?_, rfl⟩
    simp [mw1]
  · show (mw (mw (mw (mw V9 1059 4 q) 1059 3 q) 1059 2 0) 1059 0 0).1 1059 4 = _ ∧ (mw (mw (mw (mw V9 1059 4 q) 1059 3 q) 1059 2 0) 1059 0 0).1 1059 3 = _ ∧ (mw (mw (mw (mw V9 1059 4 q) 1059 3 q) 1059 2 0) 1059 0 0).1 1059 2 = _ ∧ (mw (mw (mw (mw V9 1059 4 q) 1059 3 q) 1059 2 0) 1059 0 0).1 1059 0 = _
    refine ⟨?_, ?_, ?_, ?_⟩ <;> simp [mw1]
  · have z : (mw (mw (mw (mw V9 1059 4 q) 1059 3 q) 1059 2 0) 1059 0 0).1 600 = V9.1 600 := v10 600 (by omega)
    show (mw (mw (mw (mw V9 1059 4 q) 1059 3 q) 1059 2 0) 1059 0 0).1 600 0 = _ ∧ (mw (mw (mw (mw V9 1059 4 q) 1059 3 q) 1059 2 0) 1059 0 0).1 600 1 = _ ∧ (mw (mw (mw (mw V9 1059 4 q) 1059 3 q) 1059 2 0) 1059 0 0).1 600 2 = _ ∧ (mw (mw (mw (mw V9 1059 4 q) 1059 3 q) 1059 2 0) 1059 0 0).1 600 3 = _ ∧ (mw (mw (mw (mw V9 1059 4 q) 1059 3 q) 1059 2 0) 1059 0 0).1 600 4 = _ ∧ (mw (mw (mw (mw V9 1059 4 q) 1059 3 q) 1059 2 0) 1059 0 0).1 600 7 = _ ∧ (mw (mw (mw (mw V9 1059 4 q) 1059 3 q) 1059 2 0) 1059 0 0).1 600 8 = _
    rw [z]
    exact ⟨i7, i8, i9, i10, i11, i12, i13⟩
  · intro j hj
    show (mw (mw (mw (mw V9 1059 4 q) 1059 3 q) 1059 2 0) 1059 0 0).1 605 j = _
    rw [v10 605 (by omega)]
    have := i14 j hj
    rw [ite_self] at this
    exact this
  · intro j hj
    show (mw (mw (mw (mw V9 1059 4 q) 1059 3 q) 1059 2 0) 1059 0 0).1 606 j = _
    rw [v10 606 (by omega)]
    have := i15 j hj
    rw [ite_self] at this
    exact this
  · omega
