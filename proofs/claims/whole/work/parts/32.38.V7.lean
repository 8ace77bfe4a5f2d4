/-! V7 -/
set_option maxRecDepth 20000 in
set_option maxHeartbeats 4000000 in
theorem boot57 : ∀ N i M, i ≤ 8 → 8 - i < N → (∀ k, k < i → M.1 117 k = 0 ∧ M.1 118 k = 0) → ∃ M', lp b57_M_boot N (Int32.ofNat i, M) = some (Int32.ofNat 8, M') ∧ M'.2 = M.2 ∧ (∀ a, a ≠ 117 → a ≠ 118 → M'.1 a = M.1 a) ∧ ∀ k, k < 8 → M'.1 117 k = 0 ∧ M'.1 118 k = 0 := by
  intro N
  induction N with
  | zero => intro i M h1 h2; omega
  | succ N ih =>
    intro i M h1 h2 h3
    by_cases e : i = 8
    · subst e
      refine ⟨M, lp_inr ?_, rfl, fun _ _ _ => rfl, h3⟩
      unfold b57_M_boot
      rw [if_pos (by show (8 : Int32) ≤ Int32.ofNat 8; decide)]
    · have st : b57_M_boot (Int32.ofNat i, M) = some (.inl (Int32.ofNat (i + 1), mw (mw M 117 i 0) 118 i 0)) := by
        unfold b57_M_boot
        dsimp only
        rw [if_neg (by rw [o_leL _ _ (by decide) (by omega)]; show ¬ 8 ≤ i; omega), if_pos (ixl (by omega) (by omega)), o_cl _ (by omega), o_addR]
      obtain ⟨M', a1, a2, a3, a4⟩ := ih (i + 1) _ (by omega) (by omega) (by
        intro k hk
        show (mw (mw M 117 i 0) 118 i 0).1 117 k = 0 ∧ (mw (mw M 117 i 0) 118 i 0).1 118 k = 0
        simp only [mw1]
        by_cases q : k = i
        · simp [q]
        · simp [q]; exact h3 k (by omega))
      exact ⟨M', by rw [lp_inl st]; exact a1, a2, fun a h1 h2 => by rw [a3 a h1 h2, mwr _ _ _ h2, mwr _ _ _ h1], a4⟩
set_option maxRecDepth 20000 in
set_option maxHeartbeats 4000000 in
theorem boot85 : ∀ N i M, i ≤ 1002 → 1002 - i < N → (∀ k, k < i → M.1 121 k = -1) → ∃ M', lp b85_M_boot N (Int32.ofNat i, M) = some (Int32.ofNat 1002, M') ∧ M'.2 = M.2 ∧ (∀ a, a ≠ 121 → M'.1 a = M.1 a) ∧ ∀ k, k < 1002 → M'.1 121 k = -1 := by
  intro N
  induction N with
  | zero => intro i M h1 h2; omega
  | succ N ih =>
    intro i M h1 h2 h3
    by_cases e : i = 1002
    · subst e
      refine ⟨M, lp_inr ?_, rfl, fun _ _ => rfl, h3⟩
      unfold b85_M_boot
      rw [if_pos (by show (1002 : Int32) ≤ Int32.ofNat 1002; decide)]
    · have st : b85_M_boot (Int32.ofNat i, M) = some (.inl (Int32.ofNat (i + 1), mw M 121 i (-1))) := by
        unfold b85_M_boot
        dsimp only
        rw [if_neg (by rw [o_leL _ _ (by decide) (by omega)]; show ¬ 1002 ≤ i; omega), if_pos (ixl (by omega) (by omega)), o_cl _ (by omega), o_addR]
      obtain ⟨M', a1, a2, a3, a4⟩ := ih (i + 1) _ (by omega) (by omega) (by
        intro k hk
        rw [mw1]
        by_cases q : k = i
        · rw [if_pos ⟨rfl, q⟩]
        · rw [if_neg (by omega)]; exact h3 k (by omega))
      exact ⟨M', by rw [lp_inl st]; exact a1, a2, fun a h1 => by rw [a3 a h1, mwr _ _ _ h1], a4⟩
/-- the places of the reference that a boot writes -/
def Fbo (a f : Nat) : Prop := (95 ≤ a ∧ a ≤ 118) ∨ a = 121 ∨ (a = 60 ∧ ((57 ≤ f ∧ f ≤ 59) ∨ (61 ≤ f ∧ f ≤ 64) ∨ f = 76 ∨ f = 78 ∨ (86 ≤ f ∧ f ≤ 88) ∨ f = 95))
def BM (Mr : MS) (kc rc main hp : Nat) (q : Int32) (M M' : MS) : Prop := (M'.2 = 0) ∧ (KP Mr kc rc main M' 0) ∧ (KP Mr kc rc main M' 1) ∧ (∀ a f, ¬ Fbo a f → M'.1 a f = M.1 a f) ∧ (M'.1 60 57 = 1 ∧ M'.1 60 58 = q ∧ M'.1 60 59 = Int32.ofNat hp) ∧ (M'.1 60 61 = 1 ∧ M'.1 60 62 = -2 ∧ M'.1 60 63 = 0 ∧ M'.1 60 64 = -1) ∧ (M'.1 60 76 = 0 ∧ M'.1 60 78 = 0) ∧ (M'.1 60 86 = 0 ∧ M'.1 60 87 = 0 ∧ M'.1 60 88 = 0 ∧ M'.1 60 95 = 0) ∧ (∀ k, k < 8 → M'.1 117 k = 0 ∧ M'.1 118 k = 0) ∧ (∀ k, k < 1002 → M'.1 121 k = -1) ∧ (M'.1 109 0 = 1 ∧ M'.1 110 0 = 0 ∧ M'.1 111 0 = 0 ∧ M'.1 112 0 = Int32.ofNat main ∧ M'.1 113 0 = 0 ∧ M'.1 114 0 = 0) ∧ (∀ j, j < 22 → M'.1 115 j = 0) ∧ (∀ j, j < 22 → M'.1 116 j = 0)
theorem BM.dn {Mr : MS} {kc rc main hp : Nat} {q : Int32} {M M' : MS} (h0 : BM Mr kc rc main hp q M M') : M'.2 = 0 := h0.1
theorem BM.k0 {Mr : MS} {kc rc main hp : Nat} {q : Int32} {M M' : MS} (h0 : BM Mr kc rc main hp q M M') : KP Mr kc rc main M' 0 := h0.2.1
theorem BM.k1 {Mr : MS} {kc rc main hp : Nat} {q : Int32} {M M' : MS} (h0 : BM Mr kc rc main hp q M M') : KP Mr kc rc main M' 1 := h0.2.2.1
theorem BM.ot {Mr : MS} {kc rc main hp : Nat} {q : Int32} {M M' : MS} (h0 : BM Mr kc rc main hp q M M') : ∀ a f, ¬ Fbo a f → M'.1 a f = M.1 a f := h0.2.2.2.1
theorem BM.f5 {Mr : MS} {kc rc main hp : Nat} {q : Int32} {M M' : MS} (h0 : BM Mr kc rc main hp q M M') : M'.1 60 57 = 1 ∧ M'.1 60 58 = q ∧ M'.1 60 59 = Int32.ofNat hp := h0.2.2.2.2.1
theorem BM.f6 {Mr : MS} {kc rc main hp : Nat} {q : Int32} {M M' : MS} (h0 : BM Mr kc rc main hp q M M') : M'.1 60 61 = 1 ∧ M'.1 60 62 = -2 ∧ M'.1 60 63 = 0 ∧ M'.1 60 64 = -1 := h0.2.2.2.2.2.1
theorem BM.f7 {Mr : MS} {kc rc main hp : Nat} {q : Int32} {M M' : MS} (h0 : BM Mr kc rc main hp q M M') : M'.1 60 76 = 0 ∧ M'.1 60 78 = 0 := h0.2.2.2.2.2.2.1
theorem BM.f8 {Mr : MS} {kc rc main hp : Nat} {q : Int32} {M M' : MS} (h0 : BM Mr kc rc main hp q M M') : M'.1 60 86 = 0 ∧ M'.1 60 87 = 0 ∧ M'.1 60 88 = 0 ∧ M'.1 60 95 = 0 := h0.2.2.2.2.2.2.2.1
theorem BM.ss {Mr : MS} {kc rc main hp : Nat} {q : Int32} {M M' : MS} (h0 : BM Mr kc rc main hp q M M') : ∀ k, k < 8 → M'.1 117 k = 0 ∧ M'.1 118 k = 0 := h0.2.2.2.2.2.2.2.2.1
theorem BM.fr {Mr : MS} {kc rc main hp : Nat} {q : Int32} {M M' : MS} (h0 : BM Mr kc rc main hp q M M') : ∀ k, k < 1002 → M'.1 121 k = -1 := h0.2.2.2.2.2.2.2.2.2.1
theorem BM.th {Mr : MS} {kc rc main hp : Nat} {q : Int32} {M M' : MS} (h0 : BM Mr kc rc main hp q M M') : M'.1 109 0 = 1 ∧ M'.1 110 0 = 0 ∧ M'.1 111 0 = 0 ∧ M'.1 112 0 = Int32.ofNat main ∧ M'.1 113 0 = 0 ∧ M'.1 114 0 = 0 := h0.2.2.2.2.2.2.2.2.2.2.1
theorem BM.t5 {Mr : MS} {kc rc main hp : Nat} {q : Int32} {M M' : MS} (h0 : BM Mr kc rc main hp q M M') : ∀ j, j < 22 → M'.1 115 j = 0 := h0.2.2.2.2.2.2.2.2.2.2.2.1
theorem BM.t6 {Mr : MS} {kc rc main hp : Nat} {q : Int32} {M M' : MS} (h0 : BM Mr kc rc main hp q M M') : ∀ j, j < 22 → M'.1 116 j = 0 := h0.2.2.2.2.2.2.2.2.2.2.2.2
set_option maxRecDepth 20000 in
set_option maxHeartbeats 4000000 in
theorem KP_eq {Mr : MS} {kc rc main d : Nat} {M M' : MS} (h : KP Mr kc rc main M d) (e : ∀ a, 95 ≤ a → a ≤ 108 → M'.1 a = M.1 a) : KP Mr kc rc main M' d := by
  obtain ⟨k1, k2, k3, k4, k5⟩ := h
  refine ⟨?_, ?_, ?_, ?_, ?_⟩
  · intro c hc
    obtain ⟨a1, a2, a3, a4⟩ := k1 c hc
    refine ⟨by rw [e 95 (by omega) (by omega)]; exact a1, by rw [e 96 (by omega) (by omega)]; exact a2, by rw [e 97 (by omega) (by omega)]; exact a3, ?_⟩
    intro n hn
    rw [e 98 (by omega) (by omega)]; exact a4 n hn
  · intro m hm
    obtain ⟨a1, a2, a3, a4, a5⟩ := k2 m hm
    exact ⟨by rw [e 99 (by omega) (by omega)]; exact a1, by rw [e 100 (by omega) (by omega)]; exact a2, by rw [e 101 (by omega) (by omega)]; exact a3, by rw [e 102 (by omega) (by omega)]; exact a4, by rw [e 105 (by omega) (by omega)]; exact a5⟩
  · intro k hk; rw [e 106 (by omega) (by omega)]; exact k3 k hk
  · intro k hk
    obtain ⟨a1, a2, a3⟩ := k4 k hk
    exact ⟨by rw [e 103 (by omega) (by omega)]; exact a1, by rw [e 104 (by omega) (by omega)]; exact a2, by rw [e 108 (by omega) (by omega)]; exact a3⟩
  · rw [e 107 (by omega) (by omega)]; exact k5
set_option maxRecDepth 20000 in
set_option maxHeartbeats 4000000 in
theorem bootM {Mr : MS} {kc rc main : Nat} (gp : GP Mr kc rc main) {M : MS} (h : KP Mr kc rc main M 0) (hl : ¬ M.1 60 37 = 0) {x : Int32} (hx : 1 ≤ x ∧ x ≤ 50) {hp : Nat} (hh : 50 ≤ hp ∧ hp ≤ 8000) : ∃ M', f_M_boot x (Int32.ofNat hp) M = some (true, M') ∧ BM Mr kc rc main hp x M M' := by
  obtain ⟨hk, hr⟩ := gp_k10 gp
  obtain ⟨M1, b1, b2, b3, b4, b5⟩ := beginM_ok h hk hr
  generalize hM2 : mlg (mw (mw (mw M1 60 57 1) 60 58 x) 60 59 (Int32.ofNat hp)) (Int64.ofNat 0) = M2
  have m2r : ∀ a, a ≠ 60 → M2.1 a = M1.1 a := by
    intro a ha
    rw [← hM2]
    show (mw (mw (mw M1 60 57 1) 60 58 x) 60 59 (Int32.ofNat hp)).1 a = _
    rw [mwr _ _ _ ha, mwr _ _ _ ha, mwr _ _ _ ha]
  have m2f : ∀ f, M2.1 60 f = if f = 59 then Int32.ofNat hp else if f = 58 then x else if f = 57 then 1 else M1.1 60 f := by
    intro f
    rw [← hM2]
    show (mw (mw (mw M1 60 57 1) 60 58 x) 60 59 (Int32.ofNat hp)).1 60 f = _
    simp only [mw1, true_and]
  have m2d : M2.2 = 0 := by rw [← hM2]; rfl
  obtain ⟨M3, c1, c2, c3, c4⟩ := boot57 10000 0 M2 (by omega) (by omega) (fun k hk => absurd hk (Nat.not_lt_zero k))
  obtain ⟨M4, d1, d2, d3, d4⟩ := boot85 10000 0 M3 (by omega) (by omega) (fun k hk => absurd hk (Nat.not_lt_zero k))
  generalize hM5 : mw (mw (mw (mw (mw (mw (mw (mw (mw (mw M4 60 95 0) 60 86 0) 60 87 0) 60 88 0) 60 76 0) 60 78 0) 60 61 0) 60 62 (-2)) 60 63 0) 60 64 (-1) = M5
  have m5r : ∀ a, a ≠ 60 → M5.1 a = M4.1 a := by
    intro a ha
    rw [← hM5, mwr _ _ _ ha, mwr _ _ _ ha, mwr _ _ _ ha, mwr _ _ _ ha, mwr _ _ _ ha, mwr _ _ _ ha, mwr _ _ _ ha, mwr _ _ _ ha, mwr _ _ _ ha, mwr _ _ _ ha]
  have m5f : ∀ f, M5.1 60 f = if f = 64 then -1 else if f = 63 then 0 else if f = 62 then -2 else if f = 61 then 0 else if f = 78 then 0 else if f = 76 then 0 else if f = 88 then 0 else if f = 87 then 0 else if f = 86 then 0 else if f = 95 then 0 else M4.1 60 f := by
    intro f
    rw [← hM5]
    simp only [mw1, true_and]
  have m5d : M5.2 = 0 := by rw [← hM5]; show M4.2 = 0; rw [d2, c2, m2d]
  have r4 : ∀ a, a ≠ 60 → a ≠ 117 → a ≠ 118 → a ≠ 121 → M5.1 a = M1.1 a := fun a h1 h2 h3 h4 => by rw [m5r a h1, d3 a h4, c3 a h2 h3, m2r a h1]
  have e107 : M5.1 107 1 = Int32.ofNat main := by rw [r4 107 (by omega) (by omega) (by omega) (by omega)]; exact b3.2.2.2.2
  obtain ⟨M6, g1, g2, g3, g4, g5, g6, g7, g8, g9, g10, g11, g12, g13, g14, g15⟩ := begThr (M := M5) (nb := 0) (r := main) (by omega) (by rw [m5f]; rfl) 0
  have f4 : ∀ f, M4.1 60 f = if f = 59 then Int32.ofNat hp else if f = 58 then x else if f = 57 then 1 else M1.1 60 f := fun f => by rw [d3 60 (by omega), c3 60 (by omega) (by omega)]; exact m2f f
  have hx0 : (1 : Int32) ≤ x ∧ x ≤ 50 := hx
  have hy0 : (50 : Int32) ≤ Int32.ofNat hp ∧ Int32.ofNat hp ≤ 8000 := by
    rw [o_leL _ _ (by decide) (by omega), o_leR _ _ (by omega) (by decide)]
    exact hh
  refine ⟨M6, ?_, ?_⟩
  · unfold f_M_boot
    rw [if_pos hx0, if_pos hy0, if_pos hl, b1, Option.bind_some]
    dsimp only [lt]
    rw [hM2]
    have c1' : lp b57_M_boot 10000 ((0 : Int32), M2) = some (Int32.ofNat 8, M3) := c1
    have d1' : lp b85_M_boot 10000 ((0 : Int32), M3) = some (Int32.ofNat 1002, M4) := d1
    rw [c1', Option.bind_some, d1', Option.bind_some, hM5, e107, g1, Option.bind_some]
  · have g6r : ∀ a, a ≠ 60 → ¬ (109 ≤ a ∧ a ≤ 116) → M6.1 a = M5.1 a := g2
    refine ⟨?_, ?_, ?_, ?_, ?_, ?_, ?_, ?_, ?_, ?_, ?_, ?_, ?_⟩
    · rw [g15, m5d]
    · exact KP_eq b2 (fun a h1 h2 => by rw [g6r a (by omega) (by omega), r4 a (by omega) (by omega) (by omega) (by omega)])
    · exact KP_eq b3 (fun a h1 h2 => by rw [g6r a (by omega) (by omega), r4 a (by omega) (by omega) (by omega) (by omega)])
    · intro a f hf
      unfold Fbo at hf
      by_cases e : a = 60
      · subst e
        rw [g3 f, if_neg (by omega), m5f f, if_neg (by omega), if_neg (by omega), if_neg (by omega), if_neg (by omega), if_neg (by omega), if_neg (by omega), if_neg (by omega), if_neg (by omega), if_neg (by omega), if_neg (by omega), f4 f, if_neg (by omega), if_neg (by omega), if_neg (by omega), b5 60 (by omega)]
      · rw [g6r a e (by omega), r4 a e (by omega) (by omega) (by omega), b5 a (by omega)]
    · refine ⟨?_, ?_, ?_⟩
      · rw [g3 57, m5f 57, f4 57]; rfl
      · rw [g3 58, m5f 58, f4 58]; rfl
      · rw [g3 59, m5f 59, f4 59]; rfl
    · refine ⟨?_, ?_, ?_, ?_⟩
      · rw [g3 61]; rfl
      · rw [g3 62, m5f 62]; rfl
      · rw [g3 63, m5f 63]; rfl
      · rw [g3 64, m5f 64]; rfl
    · refine ⟨?_, ?_⟩
      · rw [g3 76, m5f 76]; rfl
      · rw [g3 78, m5f 78]; rfl
    · refine ⟨?_, ?_, ?_, ?_⟩
      · rw [g3 86, m5f 86]; rfl
      · rw [g3 87, m5f 87]; rfl
      · rw [g3 88, m5f 88]; rfl
      · rw [g3 95, m5f 95]; rfl
    · intro k hk
      rw [g6r 117 (by omega) (by omega), g6r 118 (by omega) (by omega), m5r 117 (by omega), m5r 118 (by omega), d3 117 (by omega), d3 118 (by omega)]
      exact c4 k hk
    · intro k hk
      rw [g6r 121 (by omega) (by omega), m5r 121 (by omega)]
      exact d4 k hk
    · exact ⟨g5, g6, g7, g9, g10, g11⟩
    · intro j hj
      have := g13 j hj
      rw [Nat.mul_zero, Nat.zero_add] at this
      rw [this, ite_self]
    · intro j hj
      have := g14 j hj
      rw [Nat.mul_zero, Nat.zero_add] at this
      rw [this, if_neg (fun q => q.2 (by decide))]
