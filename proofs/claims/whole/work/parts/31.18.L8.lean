/-! L8 -/
/-- what the class's Reach has found -/
def RchX (M : MS) (kc rc main : Nat) (X : XS) : Prop := (∀ m, m < 24 → fl X 17 m → m < rc) ∧ Clo M kc rc main (fl X 17) (fl X 16) (fl X 19) ∧ SndX M kc rc main X ∧
  (∀ c, c < 10 → fl X 15 c → c < kc) ∧ UpC M kc (Dir M kc rc (fl X 17)) (fl X 15) ∧ (∀ S, UpC M kc (Dir M kc rc (fl X 17)) S → ∀ c, c < 10 → fl X 15 c → S c) ∧
  X.1 14 0 = Int32.ofNat (cnt (flB X 15) 10) ∧ X.1 14 1 = Int32.ofNat (cnt (flB X 17) 24) ∧ (∀ c, c < 10 → fl X 15 c → X.1 20 c = Int32.ofNat (cnt (flB X 15) c)) ∧ (∀ m, m < 24 → fl X 17 m → X.1 21 m = Int32.ofNat (cnt (flB X 17) m))
set_option maxRecDepth 20000 in
set_option maxHeartbeats 4000000 in
theorem aK_lt {M : MS} {kc m c : Nat} (h : aK M kc m c) : c < kc := by
  rcases h with ⟨i, _, h⟩ | ⟨i, _, h, _⟩
  · exact h.1
  · exact h
set_option maxRecDepth 20000 in
set_option maxHeartbeats 4000000 in
theorem follow_ok {X : XS} {M : MS} {T : Nat → Nat} {kc rc main : Nat} (h : RSc X M T kc rc) (ht : TG T) (hm : main < rc) : Wo (f_Reach_follow (Int32.ofNat main) X) (fun X' => Only Rch X X' ∧ RchX M kc rc main X') := by
  have hr := h.2.1
  have k1 := h.1.1
  unfold f_Reach_follow
  obtain ⟨X1, x1, o1, z1, z2, z3⟩ := clear_ok X
  have h1 := Only.rsc h ht o1 (by unfold Rch; omega)
  obtain ⟨X2, x2, o2, f2⟩ := addRoutine_ok h1 (Int32.ofNat main)
  have oo2 := o1.trans o2
  have h2 := Only.rsc h ht oo2 (by unfold Rch; omega)
  have only17 : ∀ m, m < 24 → fl X2 17 m → m = main := by
    intro m hm' hf
    rcases (f2 _ _).mp hf with hf | ⟨_, q1, q2⟩
    · exact absurd hf (z2 m hm').1
    · rw [o_eq _ _ (by omega) (by omega)] at q2
      exact q2.symm
  have no : ∀ b j, b ≠ 17 → fl X2 b j → fl X1 b j := by
    intro b j hb hf
    rcases (f2 _ _).mp hf with hf | ⟨q, _⟩
    · exact hf
    · exact absurd q hb
  have fm : fl X2 17 main := (f2 _ _).mpr (Or.inr ⟨rfl, hm, rfl⟩)
  have px : PX M kc rc main X2 := by
    refine ⟨?_, ?_, ?_, ?_, ?_⟩
    · intro m hm' hf
      have := only17 m hm' hf
      omega
    · intro c hc hf
      exact absurd (no _ _ (by decide) hf) (z1 c hc).2
    · intro m hm' hf
      exact absurd (no _ _ (by decide) hf) (z2 m hm').2
    · intro c hc hf
      exact absurd (no _ _ (by decide) hf) (z1 c hc).1
    · intro R Md C hcl
      refine ⟨?_, ?_, ?_⟩
      · intro m hm' hf
        rw [only17 m hm' hf]
        exact hcl.1
      · intro c hc hf
        exact absurd (no _ _ (by decide) hf) (z1 c hc).2
      · intro n hn hf
        exact absurd (no _ _ (by decide) hf) (z3 n hn)
  have jx : JX M kc rc X2 := by
    intro c n r hc hn hf
    exact absurd (no _ _ (by decide) hf) (z1 c (by omega)).2
  obtain ⟨s, es, so, sp, sj, sm, sall⟩ := rounds_ok h2 ht px jx fm
  have oo3 := oo2.trans so
  have h3 := Only.rsc h ht oo3 (by unfold Rch; omega)
  obtain ⟨X4, x4, o4, g1, g2⟩ := owners_ok (main := main) h3 ht sp.1
  have oo4 := oo3.trans o4
  have h4 := Only.rsc h ht oo4 (by unfold Rch; omega)
  have v15 : ∀ c, c < 10 → fl X4 15 c → c < kc := by
    intro c hc hf
    rcases (g2 c).mp hf with hf | ⟨m, _, _, _, _, q⟩
    · obtain ⟨m, _, _, q⟩ := sp.2.2.2.1 c hc hf
      exact aK_lt q
    · exact q
  obtain ⟨X5, x5, o5, i1, i2, i3, i4⟩ := above_ok h4 ht v15
  have oo5 := oo4.trans o5
  obtain ⟨X6, x6, o6, j1, j2, j3, j4, j5⟩ := number_ok X5
  rw [x1]
  simp only [Option.bind_some, x2, es, x4, x5, x6]
  rw [W_some]
  have fl6 : ∀ b j, 15 ≤ b → b ≤ 19 → (fl X6 b j ↔ fl X5 b j) := by
    intro b j q1 q2
    unfold fl
    rw [j1 b j q1 q2]
  have fB : ∀ b, 15 ≤ b → b ≤ 19 → flB X6 b = flB X5 b := by
    intro b q1 q2
    funext j
    unfold flB
    rw [j1 b j q1 q2]
  have e6 : ∀ b j, 16 ≤ b → b ≤ 19 → (fl X6 b j ↔ fl s.2.2 b j) := by
    intro b j q1 q2
    rw [fl6 b j (by omega) q2, i1 b j (by omega), g1 b j (by omega)]
  have f17 : fl X6 17 = fl s.2.2 17 := funext fun j => propext (e6 17 j (by omega) (by omega))
  have f16 : fl X6 16 = fl s.2.2 16 := funext fun j => propext (e6 16 j (by omega) (by omega))
  have f19 : fl X6 19 = fl s.2.2 19 := funext fun j => propext (e6 19 j (by omega) (by omega))
  have dir : ∀ c, c < 10 → (fl X4 15 c ↔ Dir M kc rc (fl X6 17) c) := by
    intro c hc
    rw [g2, f17]
    unfold Dir
    constructor
    · rintro (hf | ⟨m, q1, q2, q3, q4, q5⟩)
      · obtain ⟨m, q1, q2, q3⟩ := sp.2.2.2.1 c hc hf
        exact ⟨m, q1, (sp.2.2.1 m (by omega) q2).1, Or.inl q3⟩
      · exact ⟨m, q1, q2, Or.inr ⟨q3, q4, q5⟩⟩
    · rintro ⟨m, q1, q2, q3 | ⟨q3, q4, q5⟩⟩
      · exact Or.inl ((sp.2.2.1 m (by omega) (sall m (by omega) q2)).2.2.2.2 c q3)
      · exact Or.inr ⟨m, q1, q2, q3, q4, q5⟩
  have f15 : fl X6 15 = fl X5 15 := funext fun j => propext (fl6 15 j (by omega) (by omega))
  have dlt : ∀ c, Dir M kc rc (fl X6 17) c → c < 10 := by
    rintro c ⟨m, q1, q2, q3 | ⟨q3, q4, q5⟩⟩
    · have := aK_lt q3
      omega
    · omega
  refine ⟨oo5.trans o6, ?_, ?_, ?_, ?_, ?_, ?_, ?_, ?_, ?_, ?_⟩
  · intro m hm' hf
    rw [f17] at hf
    exact sp.1 m hm' hf
  · rw [f17, f16, f19]
    refine ⟨sm, ?_, ?_⟩
    · intro m q1 q2
      obtain ⟨_, p2, p3, p4, _⟩ := sp.2.2.1 m (by omega) (sall m (by omega) q2)
      exact ⟨p2, p3, p4⟩
    · intro c n r q1 q2 q3 q4 q5
      exact sj c n r q1 q2 q3 q4 q5
  · intro R Md C hcl
    obtain ⟨p1, p2, p3⟩ := sp.2.2.2.2 R Md C hcl
    rw [f17, f16, f19]
    exact ⟨p1, p2, p3⟩
  · rw [f15]; exact i2
  · rw [f15]
    refine ⟨?_, i3.2⟩
    intro c hc
    have hl := dlt c hc
    exact i3.1 c ⟨hl, (dir c hl).mpr hc⟩
  · rw [f15]
    intro S hS c hc hf
    refine i4 S ⟨?_, hS.2⟩ c hc hf
    rintro d ⟨q1, q2⟩
    exact hS.1 d ((dir d q1).mp q2)
  · rw [fB 15 (by omega) (by omega)]; exact j2
  · rw [fB 17 (by omega) (by omega)]; exact j3
  · rw [fB 15 (by omega) (by omega), f15]
    exact j4
  · have : fl X6 17 = fl X5 17 := funext fun j => propext (fl6 17 j (by omega) (by omega))
    rw [fB 17 (by omega) (by omega), this]
    exact j5
