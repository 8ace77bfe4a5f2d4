/-! T5 -/
set_option maxRecDepth 20000 in
set_option maxHeartbeats 4000000 in
theorem clearM (M : MS) : ∃ z, lp (b17_M_collect) 10000 ((0 : Int32), M) = some (z, mf M 126 0 1002 0) := by
  have st : ∀ q, mw (mf M 126 0 q 0) 126 q 0 = mf M 126 0 (q + 1) 0 := by
    intro q
    refine Prod.ext ?_ rfl
    funext b j
    rw [mw1, mf1, mf1]
    by_cases e : b = 126
    · by_cases c : j = q
      · rw [if_pos ⟨e, c⟩, if_pos ⟨e, by omega, by omega⟩]
      · rw [if_neg (fun z => c z.2)]
        by_cases d : 0 ≤ j ∧ j < q
        · rw [if_pos ⟨e, d⟩, if_pos ⟨e, by omega, by omega⟩]
        · rw [if_neg (fun z => d z.2), if_neg (fun z => d (by omega))]
    · rw [if_neg (fun z => e z.1), if_neg (fun z => e z.1), if_neg (fun z => e z.1)]
  have key : ∀ N q, q ≤ 1002 → 1002 - q < N → ∃ z, lp (b17_M_collect) N (Int32.ofNat q, mf M 126 0 q 0) = some (z, mf M 126 0 1002 0) := by
    intro N
    induction N with
    | zero => intro q a b; omega
    | succ N ih =>
      intro q a b
      by_cases c : q = 1002
      · subst c
        refine ⟨Int32.ofNat 1002, lp_inr ?_⟩
        unfold b17_M_collect
        rw [if_pos (show (1002 : Int32) ≤ Int32.ofNat 1002 from Int32.le_refl _)]
      · have e : b17_M_collect (Int32.ofNat q, mf M 126 0 q 0) = some (.inl (Int32.ofNat (q + 1), mf M 126 0 (q + 1) 0)) := by
          unfold b17_M_collect
          have c1 : ¬ (1002 : Int32) ≤ Int32.ofNat q := by rw [o_leL _ _ (by decide) (by omega)]; show ¬ 1002 ≤ q; omega
          have cl : (Int32.ofNat q).toNatClampNeg = q := o_cl _ (by omega)
          rw [if_neg c1]
          dsimp only [lt]
          rw [if_pos (ixl (by omega) (by omega)), cl, st q, o_addR]
        rw [lp_inl e]
        exact ih (q + 1) (by omega) (by omega)
  have := key 10000 0 (by omega) (by omega)
  rw [mf_0] at this
  exact this
/-- a thread's frames, of a thread that lives or of one that has ended -/
def ThF (Mr : MS) (A : HG) (V M : MS) (t : Nat) : Prop := (M.1 110 t = 0 ∧ ∃ d, d < 20 ∧ M.1 109 t = Int32.ofNat (d + 1) ∧ V.1 (600 + 16 * t) 2 = Int32.ofNat (d + 1) ∧ ∀ f, f < d + 1 → ∃ g h l, M.1 114 (20 * t + f) = Int32.ofNat h ∧ FrR Mr A V M t f g h l) ∨ (¬ M.1 110 t = 0 ∧ M.1 109 t = 0 ∧ V.1 (600 + 16 * t) 2 = 0)
set_option maxRecDepth 20000 in
set_option maxHeartbeats 4000000 in
theorem ThR.fr {Mr : MS} {kc rc : Nat} {A : HG} {V M : MS} {t : Nat} (h : ThR Mr kc rc A V M t) : ThF Mr A V M t := by
  rcases h with ⟨d, m, i, S, a1, a2, a3, a4⟩ | ⟨d1, d2, d3, d4⟩
  · refine Or.inl ⟨a3.al.1, d, a3.d20, a3.m109, a3.v2, fun f hf => ?_⟩
    by_cases e : f = d
    · subst e; exact ⟨_, _, _, a3.m114, a3.fr⟩
    · obtain ⟨m', i', h', S', g'', h'', l'', s1, s2, s3, s4, s5, s6, s7, s8, s9, s10⟩ := a4 f (by omega)
      exact ⟨_, _, _, s5, s9⟩
  · refine Or.inr ⟨?_, d1, d2⟩
    rcases d4 with z | z
    · rw [z.1]; decide
    · rw [z.1]; decide
set_option maxRecDepth 20000 in
set_option maxHeartbeats 4000000 in
theorem Md.frs {k : Kx} {T C : Nat → Nat} {n : Nat} {X : XS} {V M : MS} {g : Nat → Int32} {h : Nat} {l : Nat → Int32} (md : Md k T C n X V M g h l) : ∀ t, t < k.nb → ThF k.c.Mr k.A V M t := by
  intro t ht
  by_cases e : t = k.t
  · subst e
    have a3 := md.tp
    refine Or.inl ⟨a3.al.1, k.d, a3.d20, a3.m109, a3.v2, fun f hf => ?_⟩
    by_cases e : f = k.d
    · subst e; exact ⟨_, _, _, a3.m114, a3.fr⟩
    · obtain ⟨m', i', h', S', g'', h'', l'', s1, s2, s3, s4, s5, s6, s7, s8, s9, s10⟩ := md.lo f (by omega)
      exact ⟨_, _, _, s5, s9⟩
  · exact (md.ot t ht e).fr
set_option maxRecDepth 20000 in
set_option maxHeartbeats 4000000 in
/-- slots of a frame -/
theorem FrR.sl {Mr : MS} {A : HG} {V M : MS} {t f : Nat} {g : Nat → Int32} {h : Nat} {l : Nat → Int32} (r : FrR Mr A V M t f g h l) {s : Nat} (hs : s < 12 + h) : SlR Mr A V M t (22 * f + s) := by
  by_cases e : s < 12
  · exact (r.loc s e).1
  · have := (r.stk (s - 12) (by omega)).1
    rw [show 22 * f + 12 + (s - 12) = 22 * f + s by omega] at this
    exact this
set_option maxRecDepth 20000 in
set_option maxHeartbeats 4000000 in
/-- what the two sides know of a thread's roots -/
theorem ThF.ok {Mr : MS} {kc hp : Nat} {A : HG} {V M : MS} (hr : HR Mr kc A hp V M) {t : Nat} (h : ThF Mr A V M t) : (dep V t ≤ 20 ∧ V.1 (600 + 16 * t) 2 = Int32.ofNat (dep V t)) ∧ (∀ s, s < 22 * dep V t → ¬ V.1 (606 + 16 * t) s = 0 → Rx Mr A (V.1 (605 + 16 * t) s)) ∧ Fok A M t ∧ ∀ k, Rt Mr A V t (22 * dep V t) k ↔ RtM A M t k := by
  rcases h with ⟨al, d, hd, e1, e2, fr⟩ | ⟨al, e1, e2⟩
  · have ed : dep V t = d + 1 := by unfold dep; rw [e2]; exact o_cl _ (by omega)
    have em : dpM M t = d + 1 := by unfold dpM; rw [e1]; exact o_cl _ (by omega)
    have sl : ∀ s, s < 22 * dep V t → ¬ V.1 (606 + 16 * t) s = 0 → ∃ f, f < d + 1 ∧ ∃ j, j < 12 + hiM M (20 * t + f) ∧ s = 22 * f + j ∧ SlR Mr A V M t s := by
      intro s hs hz
      rw [ed] at hs
      obtain ⟨g, h, l, h1, h2⟩ := fr (s / 22) (by omega)
      have eh : hiM M (20 * t + s / 22) = h := by have := h2.le; unfold hiM; rw [h1]; exact o_cl _ (by omega)
      have es : s = 22 * (s / 22) + s % 22 := by omega
      have hl : s % 22 < 12 + h := by
        apply Classical.byContradiction
        intro w
        have := h2.up (s % 22 - 12) (by omega) (by omega)
        rw [show 22 * (s / 22) + 12 + (s % 22 - 12) = s by omega] at this
        exact hz this
      refine ⟨s / 22, by omega, s % 22, by rw [eh]; exact hl, es, ?_⟩
      have := h2.sl hl
      rw [← es] at this
      exact this
    refine ⟨⟨by omega, by rw [ed]; exact e2⟩, ?_, ?_, ?_⟩
    · intro s hs hz
      obtain ⟨f, hf, j, hj, es, r⟩ := sl s hs hz
      rcases r with ⟨_, z, _⟩ | ⟨_, _, r⟩
      · exact absurd z hz
      · exact r.rx
    · intro _
      refine ⟨by omega, by rw [em]; exact e1, fun f hf => ?_⟩
      rw [em] at hf
      obtain ⟨g, h, l, h1, h2⟩ := fr f hf
      have eh : hiM M (20 * t + f) = h := by have := h2.le; unfold hiM; rw [h1]; exact o_cl _ (by omega)
      refine ⟨by rw [eh]; exact h2.le, by rw [eh]; exact h1, fun s hs hz => ?_⟩
      rw [eh] at hs
      rw [show 22 * (20 * t + f) + s = 440 * t + (22 * f + s) by omega] at hz ⊢
      rcases h2.sl hs with ⟨z, _, _⟩ | ⟨_, _, r⟩
      · exact absurd z hz
      · exact r.ry
    · intro k
      constructor
      · rintro ⟨hk, s, hs, hz, e⟩
        obtain ⟨f, hf, j, hj, es, r⟩ := sl s hs hz
        rcases r with ⟨_, z, _⟩ | ⟨m6, _, r⟩
        · exact absurd z hz
        · refine ⟨al, f, by rw [em]; exact hf, hk, j, hj, ?_, ?_⟩
          · rw [show 22 * (20 * t + f) + j = 440 * t + (22 * f + j) by omega, ← es, m6]; decide
          · rw [show 22 * (20 * t + f) + j = 440 * t + (22 * f + j) by omega, ← es]
            exact (r.to hr hk).mp e
      · rintro ⟨_, f, hf, hk, j, hj, hz, e⟩
        rw [em] at hf
        obtain ⟨g, h, l, h1, h2⟩ := fr f hf
        have eh : hiM M (20 * t + f) = h := by have := h2.le; unfold hiM; rw [h1]; exact o_cl _ (by omega)
        rw [eh] at hj
        have := h2.le
        rw [show 22 * (20 * t + f) + j = 440 * t + (22 * f + j) by omega] at hz e
        rcases h2.sl hj with ⟨z, _, _⟩ | ⟨_, v6, r⟩
        · exact absurd z hz
        · refine ⟨hk, 22 * f + j, by rw [ed]; omega, by rw [v6]; decide, (r.to hr hk).mpr e⟩
  · have ed : dep V t = 0 := by unfold dep; rw [e2]; rfl
    refine ⟨⟨by omega, by rw [ed, e2]; rfl⟩, ?_, fun z => absurd z al, fun k => ?_⟩
    · intro s hs; rw [ed] at hs; omega
    · constructor
      · rintro ⟨hk, s, hs, hz⟩; rw [ed] at hs; omega
      · rintro ⟨z, _⟩; exact absurd z al
set_option maxRecDepth 20000 in
set_option maxHeartbeats 4000000 in
/-- the same roots, the same edges: the same objects stay -/
theorem Ed_iff {Mr : MS} {kc hp : Nat} {A : HG} {V M : MS} (hr : HR Mr kc A hp V M) {k k' : Nat} (hk : k < A.N) : Ed Mr A V k k' ↔ EdM Mr A M k k' := by
  constructor
  · rintro ⟨h1, j, hj, e⟩
    exact ⟨h1, j, hj, (((hr.ob k hk).refs j hj).to hr h1).mp e⟩
  · rintro ⟨h1, j, hj, e⟩
    exact ⟨h1, j, hj, (((hr.ob k hk).refs j hj).to hr h1).mpr e⟩
