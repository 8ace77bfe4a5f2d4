/-! G5 -/
set_option maxRecDepth 20000 in
set_option maxHeartbeats 4000000 in
theorem handF_props {fr tt hd : Nat → Nat} {i s : Nat} {l : Nat → Int32} (hs : s ≤ 60) : ∀ n t S S', (∀ u, t ≤ u → u < t + n → hd u < s) → handF fr tt hd i l n t S = .inr S' → Ext S S' ∧ mu S' ≤ mu S ∧ (∀ u, t ≤ u → u < t + n → fr u ≤ i ∧ i < tt u → Cov S' (hd u) (fun _ => 2) 1 l) ∧ (∀ j, S'.1 j = true → S.1 j = true ∨ j < s)
  | 0, t, S, S', _, e => by
    have : (Sum.inr S : Nat ⊕ FS) = .inr S' := e
    cases this
    exact ⟨Ext.refl S, Nat.le_refl _, fun u h1 h2 => by omega, fun j hj => Or.inl hj⟩
  | n + 1, t, S, S', hh, e => by
    unfold handF at e
    by_cases c : fr t ≤ i ∧ i < tt t
    · rw [if_pos c] at e
      have ht := hh t (by omega) (by omega)
      cases ec : come S (hd t) (fun _ => 2) 1 l with
      | none => rw [ec] at e; cases e
      | some S1 =>
        rw [ec] at e
        have e' : handF fr tt hd i l n (t + 1) S1 = .inr S' := e
        obtain ⟨p1, p2, p3, _, p5, _⟩ := come_props (by omega) ec
        obtain ⟨q1, q2, q3, q4⟩ := handF_props hs n (t + 1) S1 S' (fun u h1 h2 => hh u (by omega) (by omega)) e'
        refine ⟨p1.trans q1, by omega, ?_, ?_⟩
        · intro u h1 h2 h3
          by_cases eu : u = t
          · subst eu; exact p2.ext q1
          · exact q3 u (by omega) (by omega) h3
        · intro j hj
          rcases q4 j hj with q | q
          · rcases p5 j q with r | r
            · exact Or.inl r
            · exact Or.inr (by omega)
          · exact Or.inr q
    · rw [if_neg c] at e
      obtain ⟨q1, q2, q3, q4⟩ := handF_props hs n (t + 1) S S' (fun u h1 h2 => hh u (by omega) (by omega)) e
      refine ⟨q1, q2, ?_, q4⟩
      intro u h1 h2 h3
      by_cases eu : u = t
      · subst eu; exact absurd h3 c
      · exact q3 u (by omega) (by omega) h3
/-- what is known of an instruction fits what it does -/
def TyAt (M : MS) (kc rc m s tc : Nat) (fr tt hd : Nat → Nat) (S : FS) (i : Nat) : Prop := Pos M kc rc m (opN M m i) (odI M m i) ∧ ∃ g h l, Tr M rc (opN M m i) (odI M m i) (S.2.2.2.1 i) (S.2.2.1 i) (S.2.2.2.2.1 i) = some (g, h, l) ∧
  (∀ u, u < tc → fr u ≤ i ∧ i < tt u → Cov S (hd u) (fun _ => 2) 1 (S.2.2.2.2.1 i)) ∧ (isJ (opN M m i) → (odI M m i).toNatClampNeg < s ∧ Cov S (odI M m i).toNatClampNeg g h l) ∧ (¬ isE (opN M m i) → i + 1 < s ∧ Cov S (i + 1) g h l)
def Typed (M : MS) (kc rc m s tc : Nat) (fr tt hd : Nat → Nat) (S : FS) : Prop := ∀ i, S.1 i = true → i < s ∧ (S.2.1 i = false → TyAt M kc rc m s tc fr tt hd S i)
set_option maxRecDepth 20000 in
set_option maxHeartbeats 4000000 in
theorem TyAt.ext {M : MS} {kc rc m s tc : Nat} {fr tt hd : Nat → Nat} {S S' : FS} {i : Nat} (h : TyAt M kc rc m s tc fr tt hd S i) (e : Ext S S') (h1 : S'.2.2.1 i = S.2.2.1 i) (h2 : S'.2.2.2.1 i = S.2.2.2.1 i) (h3 : S'.2.2.2.2.1 i = S.2.2.2.2.1 i) : TyAt M kc rc m s tc fr tt hd S' i := by
  obtain ⟨a1, g, h, l, a2, a3, a4, a5⟩ := h
  refine ⟨a1, g, h, l, ?_, ?_, ?_, ?_⟩
  · rw [h1, h2, h3]; exact a2
  · intro u hu hc
    rw [h3]
    exact (a3 u hu hc).ext e
  · intro q
    exact ⟨(a4 q).1, (a4 q).2.ext e⟩
  · intro q
    exact ⟨(a5 q).1, (a5 q).2.ext e⟩
set_option maxRecDepth 20000 in
set_option maxHeartbeats 4000000 in
theorem mu_clr {S : FS} {i : Nat} (hi : i < 60) (h1 : S.1 i = true) (h2 : S.2.1 i = true) : mu (clrW S i) + 1 ≤ mu S := by
  refine (sumW_one i 1 ?_ ?_ 60).1 hi
  · unfold wgt clrW updB
    dsimp only
    simp only [h1, h2, eq_self, if_true, ite_true, Bool.false_eq_true, if_false, ite_false]
    omega
  · intro j hj
    unfold wgt clrW updB
    dsimp only
    simp only [hj, if_false, ite_false]
set_option maxRecDepth 20000 in
set_option maxHeartbeats 4000000 in
theorem look_typed {M : MS} {kc rc m s tc : Nat} {fr tt hd : Nat → Nat} {S S' : FS} {i : Nat} (hs : s ≤ 60) (es : M.1 70 m = Int32.ofNat s) (hi : i < s) (to : TrO M m s tc fr tt hd) (ht : Typed M kc rc m s tc fr tt hd S) (h1 : S.1 i = true) (h2 : S.2.1 i = true) (hr : LookRes M kc rc m s tc fr tt hd S i (.inr S')) : Typed M kc rc m s tc fr tt hd S' ∧ mu S' < mu S ∧ (∀ j, S.1 j = true → S'.1 j = true ∧ S'.2.2.1 j = S.2.2.1 j ∧ S'.2.2.2.1 j = S.2.2.2.1 j ∧ ∀ k, leK (S'.2.2.2.2.1 j k) (S.2.2.2.2.1 j k)) := by
  rcases hr with ⟨w, _, _, q⟩ | ⟨S1, hS1, hr⟩
  · cases q
  rcases hr with ⟨_, q⟩ | ⟨_, _, q⟩ | ⟨pp, g, h, l, tn, hr⟩
  · cases q
  · cases q
  rcases hr with ⟨_, _, q⟩ | ⟨S2, hS2, hres⟩
  · cases q
  obtain ⟨a1, a2, a3, a4⟩ := handF_props hs tc 0 (clrW S i) S1 (fun u _ hu => (to u (by omega)).2.2.2.2.2) hS1
  have mc := mu_clr (S := S) (i := i) (by omega) h1 h2
  have odl : isJ (opN M m i) → (odI M m i).toNatClampNeg < s := by
    intro j
    have := (posJ j).mp pp
    rw [es] at this
    obtain ⟨k, hk, e⟩ := (le1_iff (kc := s) (by omega) (odI M m i)).mp this
    rw [e, o_cl k (by omega)]
    exact hk
  have st2 : Ext S1 S2 ∧ mu S2 ≤ mu S1 ∧ (isJ (opN M m i) → Cov S2 (odI M m i).toNatClampNeg g h l) ∧ (∀ j, S2.1 j = true → S1.1 j = true ∨ j < s) := by
    rcases hS2 with ⟨j, c⟩ | ⟨j, rfl⟩
    · have ol := odl j
      obtain ⟨p1, p2, p3, _, p5, _⟩ := come_props (by omega) c
      refine ⟨p1, p3, fun _ => p2, ?_⟩
      intro k hk
      rcases p5 k hk with q | q
      · exact Or.inl q
      · exact Or.inr (by omega)
    · exact ⟨Ext.refl _, Nat.le_refl _, fun q => absurd q j, fun _ h => Or.inl h⟩
  obtain ⟨b1, b2, b3, b4⟩ := st2
  have st3 : Ext S2 S' ∧ mu S' ≤ mu S2 ∧ (¬ isE (opN M m i) → i + 1 < s ∧ Cov S' (i + 1) g h l) ∧ (∀ j, S'.1 j = true → S2.1 j = true ∨ j < s) := by
    rcases hres with ⟨e, q⟩ | ⟨_, _, q⟩ | ⟨e, e5, ⟨_, q⟩ | ⟨S3, c, q⟩⟩
    · cases q
      exact ⟨Ext.refl _, Nat.le_refl _, fun q => absurd e q, fun _ h => Or.inl h⟩
    · cases q
    · cases q
    · cases q
      obtain ⟨p1, p2, p3, _, p5, _⟩ := come_props (by omega) c
      refine ⟨p1, p3, fun _ => ⟨by omega, p2⟩, ?_⟩
      intro k hk
      rcases p5 k hk with q | q
      · exact Or.inl q
      · exact Or.inr (by omega)
  obtain ⟨c1, c2, c3, c4⟩ := st3
  have ext : Ext (clrW S i) S' := (a1.trans b1).trans c1
  have sn : ∀ j, S'.1 j = true → S.1 j = true ∨ j < s := by
    intro j hj
    rcases c4 j hj with q | q
    · rcases b4 j q with r | r
      · rcases a4 j r with t | t
        · exact Or.inl t
        · exact Or.inr t
      · exact Or.inr r
    · exact Or.inr q
  refine ⟨?_, by omega, fun j hj => ⟨(ext.1 j hj).1, (ext.1 j hj).2.1, (ext.1 j hj).2.2.1, (ext.1 j hj).2.2.2.1⟩⟩
  intro j hj
  refine ⟨?_, ?_⟩
  · rcases sn j hj with q | q
    · exact (ht j q).1
    · exact q
  · intro wj
    rcases ext.2 j hj with q | q
    case inr => rw [wj] at q; cases q
    obtain ⟨d1, d2, d3, d4, d5⟩ := ext.1 j q
    obtain ⟨d6, d7⟩ := d5 wj
    by_cases ej : j = i
    · subst ej
      refine ⟨pp, g, h, l, ?_, ?_, ?_, c3⟩
      · rw [d2, d3, d7]; exact tn
      · intro u hu hc
        rw [d7]
        exact ((a3 u (Nat.zero_le _) (by omega) hc).ext b1).ext c1
      · intro q
        exact ⟨odl q, (b3 q).ext c1⟩
    · have wS : S.2.1 j = false := by
        have : updB S.2.1 i false j = false := d6
        unfold updB at this
        rw [if_neg ej] at this
        exact this
      obtain ⟨t1, t2⟩ := ht j q
      obtain ⟨x1, g', h', l', x2, x3, x4, x5⟩ := t2 wS
      have cv : ∀ {k hh : Nat} {gg ll : Nat → Int32}, Cov S k gg hh ll → Cov S' k gg hh ll := fun c => Cov.ext (S := clrW S i) c ext
      refine ⟨x1, g', h', l', ?_, ?_, ?_, ?_⟩
      · rw [d2, d3, d7]; exact x2
      · intro u hu hc
        rw [d7]
        exact cv (x3 u hu hc)
      · intro q; exact ⟨(x4 q).1, cv (x4 q).2⟩
      · intro q; exact ⟨(x5 q).1, cv (x5 q).2⟩
