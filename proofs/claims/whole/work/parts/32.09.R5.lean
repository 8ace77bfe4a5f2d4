/-! R5 -/
def mkB (c : Nat) (q : Nat → Nat) (k : Nat) : Bool := (List.range c).any (fun j => q j == k)
theorem mkB_iff {c : Nat} {q : Nat → Nat} {k : Nat} : mkB c q k = true ↔ inq c q k := by
  unfold mkB inq
  simp [List.any_eq_true]
/-- where objects go -/
def naH (Mr : MS) (A : HG) (S : Nat → Bool) : Nat → Nat
  | 0 => 1
  | k + 1 => naH Mr A S k + (if S k = true then wzK Mr (A.K k) (A.n k) else 0)
set_option maxRecDepth 20000 in
set_option maxHeartbeats 4000000 in
theorem naH_le (Mr : MS) (A : HG) (S : Nat → Bool) : ∀ k, 1 ≤ naH Mr A S k ∧ naH Mr A S k ≤ adH Mr A k
  | 0 => ⟨Nat.le_refl _, Nat.le_refl _⟩
  | k + 1 => by
    have := naH_le Mr A S k
    show 1 ≤ naH Mr A S k + (if S k = true then wzK Mr (A.K k) (A.n k) else 0) ∧ naH Mr A S k + (if S k = true then wzK Mr (A.K k) (A.n k) else 0) ≤ adH Mr A k + wzK Mr (A.K k) (A.n k)
    split <;> omega
/-- the class once it knows where objects go: those below k -/
def F2 (Mr : MS) (A : HG) (V0 : MS) (c : Nat) (q : Nat → Nat) (k : Nat) (V : MS) : Prop := (V.1 1041 6 = Int32.ofNat c) ∧ (∀ f, f ≠ 6 → V.1 1041 f = V0.1 1041 f) ∧ (∀ j, j < c → q j < A.N ∧ V.1 5 j = Int32.ofNat (adH Mr A (q j))) ∧ (∀ j, j < A.N → inq c q j → V.1 4 (adH Mr A j + 3) = if j < k then Int32.ofNat (naH Mr A (mkB c q) j) else 1) ∧ (∀ p, (∀ j, j < A.N → inq c q j → p ≠ adH Mr A j + 3) → V.1 4 p = V0.1 4 p) ∧ (∀ a, a ≠ 4 → a ≠ 5 → a ≠ 1041 → V.1 a = V0.1 a)
theorem F2.m6 {Mr : MS} {A : HG} {V0 : MS} {c : Nat} {q : Nat → Nat} {k : Nat} {V : MS} (h0 : F2 Mr A V0 c q k V) : V.1 1041 6 = Int32.ofNat c := h0.1
theorem F2.mo {Mr : MS} {A : HG} {V0 : MS} {c : Nat} {q : Nat → Nat} {k : Nat} {V : MS} (h0 : F2 Mr A V0 c q k V) : ∀ f, f ≠ 6 → V.1 1041 f = V0.1 1041 f := h0.2.1
theorem F2.td {Mr : MS} {A : HG} {V0 : MS} {c : Nat} {q : Nat → Nat} {k : Nat} {V : MS} (h0 : F2 Mr A V0 c q k V) : ∀ j, j < c → q j < A.N ∧ V.1 5 j = Int32.ofNat (adH Mr A (q j)) := h0.2.2.1
theorem F2.w1 {Mr : MS} {A : HG} {V0 : MS} {c : Nat} {q : Nat → Nat} {k : Nat} {V : MS} (h0 : F2 Mr A V0 c q k V) : ∀ j, j < A.N → inq c q j → V.1 4 (adH Mr A j + 3) = if j < k then Int32.ofNat (naH Mr A (mkB c q) j) else 1 := h0.2.2.2.1
theorem F2.w2 {Mr : MS} {A : HG} {V0 : MS} {c : Nat} {q : Nat → Nat} {k : Nat} {V : MS} (h0 : F2 Mr A V0 c q k V) : ∀ p, (∀ j, j < A.N → inq c q j → p ≠ adH Mr A j + 3) → V.1 4 p = V0.1 4 p := h0.2.2.2.2.1
theorem F2.ot {Mr : MS} {A : HG} {V0 : MS} {c : Nat} {q : Nat → Nat} {k : Nat} {V : MS} (h0 : F2 Mr A V0 c q k V) : ∀ a, a ≠ 4 → a ≠ 5 → a ≠ 1041 → V.1 a = V0.1 a := h0.2.2.2.2.2
set_option maxRecDepth 20000 in
set_option maxHeartbeats 4000000 in
theorem F2.wd {Mr : MS} {A : HG} {V0 V : MS} {c k0 : Nat} {q : Nat → Nat} (m : F2 Mr A V0 c q k0 V) {k p : Nat} (h1 : adH Mr A k ≤ p) (h2 : p < adH Mr A k + wzK Mr (A.K k) (A.n k)) (h3 : p ≠ adH Mr A k + 3) : V.1 4 p = V0.1 4 p := by
  refine m.w2 p (fun j hj _ e => ?_)
  have w1 := wz4 Mr (A.K j) (A.n j)
  rcases Nat.lt_trichotomy j k with z | z | z
  · have := adH_mono Mr A k z; omega
  · subst z; exact h3 e
  · have := adH_mono Mr A j z; omega
set_option maxRecDepth 20000 in
set_option maxHeartbeats 4000000 in
theorem F2.obj {Mr : MS} {kc hp : Nat} {A : HG} {V0 M0 : MS} (hr : HR Mr kc A hp V0 M0) (hkc : kc ≤ 10) {X0 : XS} {T0 : Nat → Nat} {X : XS} {T C : Nat → Nat} {n : Nat} {V : MS} (r : RV X0 T0 X T C n V) {c k0 : Nat} {q : Nat → Nat} (m : F2 Mr A V0 c q k0 V) {k : Nat} (hk : k < A.N) : ∃ fr, fr ≤ 4001 ∧ f_Memory_firstRef (Int32.ofNat (adH Mr A k)) X = some (Int32.ofNat fr) ∧ (0 < nrK Mr (A.K k) (A.n k) → fr = adH Mr A k + hdK (A.K k) + 2 * niK Mr (A.K k) (A.n k)) ∧ f_Memory_refsIn (Int32.ofNat (adH Mr A k)) X = some (Int32.ofNat (nrK Mr (A.K k) (A.n k))) ∧ f_Memory_sizeAt (Int32.ofNat (adH Mr A k)) X = some (Int32.ofNat (wzK Mr (A.K k) (A.n k))) := by
  have ob := hr.ob k hk
  have bd := hr.bd hk
  have wz := wz4 Mr (A.K k) (A.n k)
  have hd := hdK_le (A.K k)
  have ew : wzK Mr (A.K k) (A.n k) = hdK (A.K k) + 2 * niK Mr (A.K k) (A.n k) + nrK Mr (A.K k) (A.n k) := rfl
  refine obj_ok hkc r ob.ok bd.2.1 (by rw [m.wd (Nat.le_refl _) (by omega) (by omega)]; exact ob.h0) (fun h => ?_) ?_
  · have h5 : hdK (A.K k) = 5 := by unfold hdK; rw [if_neg (by omega)]
    rw [m.wd (k := k) (by omega) (by omega) (by omega)]
    exact ob.h4 h
  · rw [m.ot 1045 (by omega) (by omega) (by omega), m.ot 1046 (by omega) (by omega) (by omega)]
    exact hr.fld
set_option maxRecDepth 20000 in
set_option maxHeartbeats 4000000 in
theorem max4 {w : Nat} (h : 4 ≤ w) (h2 : w < 2147483648) : (if (4 : Int32) < Int32.ofNat w then Int32.ofNat w else 4) = Int32.ofNat w := by
  by_cases c : (4 : Int32) < Int32.ofNat w
  · rw [if_pos c]
  · rw [if_neg c]
    have : w = 4 := by
      rw [o_ltL _ _ (by decide) h2] at c
      have c' : ¬ 4 < w := c
      omega
    rw [this]
    rfl
set_option maxRecDepth 20000 in
set_option maxHeartbeats 4000000 in
theorem plan2_ok {Mr : MS} {kc hp : Nat} {A : HG} {V0 M0 : MS} (hr : HR Mr kc A hp V0 M0) (hkc : kc ≤ 10) {X0 : XS} {T0 : Nat → Nat} {X : XS} {T C : Nat → Nat} {n : Nat} {V : MS} (r : RV X0 T0 X T C n V) {c : Nat} {q : Nat → Nat} (m : MX Mr A V0 c q V) : ∃ z X' V', lp (b78_Memory_plan) 10000 ((1 : Int32), (1 : Int32), X) = some z ∧ z.2.2 = X' ∧ RV X0 T0 X' T C n V' ∧ F2 Mr A V0 c q A.N V' := by
  have N1 := hr.N1000
  have key : ∀ N k X V, RV X0 T0 X T C n V → k ≤ A.N → A.N - k < N → F2 Mr A V0 c q k V → ∃ z X' V', lp (b78_Memory_plan) N (Int32.ofNat (naH Mr A (mkB c q) k), Int32.ofNat (adH Mr A k), X) = some z ∧ z.2.2 = X' ∧ RV X0 T0 X' T C n V' ∧ F2 Mr A V0 c q A.N V' := by
    intro N
    induction N with
    | zero => intro k X V _ h1 h2; omega
    | succ N ih =>
      intro k X V r h1 h2 m
      have e7 : X.1 41 7 = Int32.ofNat (adH Mr A A.N) := by
        rw [r.rf (a := 41) (by unfold Fx; omega), show 1000 + 41 = 1041 from rfl, m.mo 7 (by omega)]
        exact hr.top
      by_cases e : k = A.N
      · subst e
        refine ⟨(Int32.ofNat (naH Mr A (mkB c q) A.N), Int32.ofNat (adH Mr A A.N), X), X, V, lp_inr ?_, rfl, r, m⟩
        unfold b78_Memory_plan
        dsimp only
        rw [e7, if_pos (Int32.le_refl _)]
      · have hk : k < A.N := by omega
        have bd := hr.bd hk
        have wz := wz4 Mr (A.K k) (A.n k)
        have mono := adH_mono Mr A A.N hk
        have nl := naH_le Mr A (mkB c q) k
        have c1 : ¬ Int32.ofNat (adH Mr A A.N) ≤ Int32.ofNat (adH Mr A k) := by rw [o_le _ _ (by omega) (by omega)]; omega
        have wk := word_eq r (j := adH Mr A k + 3) (by omega)
        have wk' : f_Memory_word (Int32.ofNat (adH Mr A k + OfNat.ofNat 3)) X = some (V.1 4 (adH Mr A k + 3)) := wk
        obtain ⟨fr, _, _, _, _, sz⟩ := m.obj hr hkc r hk
        by_cases cm : inq c q k
        · have w3 : V.1 4 (adH Mr A k + 3) = 1 := by rw [m.w1 k hk cm, if_neg (by omega)]
          obtain ⟨X1, s1, s2⟩ := setWord_eq r (j := adH Mr A k + 3) (by omega) (by omega) (naH Mr A (mkB c q) k)
          rw [Nat.mod_eq_of_lt (by omega)] at s2
          have v4 : ∀ p, (mw V 4 (adH Mr A k + 3) (Int32.ofNat (naH Mr A (mkB c q) k))).1 4 p = if p = adH Mr A k + 3 then Int32.ofNat (naH Mr A (mkB c q) k) else V.1 4 p := fun p => by rw [mw1]; simp
          have m' : F2 Mr A V0 c q (k + 1) (mw V 4 (adH Mr A k + 3) (Int32.ofNat (naH Mr A (mkB c q) k))) := by
            refine ⟨by rw [mwr _ _ _ (by omega)]; exact m.m6, fun f hf => by rw [mwr _ _ _ (by omega)]; exact m.mo f hf, fun j hj => by rw [mwr _ _ _ (by omega)]; exact m.td j hj, ?_, ?_, ?_⟩
            · intro j hj hq
              rw [v4]
              by_cases ej : j = k
              · subst ej; rw [if_pos rfl, if_pos (by omega)]
              · rw [if_neg (fun z => ej (ad_inj z)), m.w1 j hj hq]
                by_cases cj : j < k
                · rw [if_pos cj, if_pos (by omega)]
                · rw [if_neg cj, if_neg (by omega)]
            · intro p hp
              rw [v4, if_neg (hp k hk cm)]
              exact m.w2 p hp
            · intro a h1 h2 h3
              rw [mwr _ _ _ h1]
              exact m.ot a h1 h2 h3
          obtain ⟨_, _, _, _, _, sz'⟩ := m'.obj hr hkc s2 hk
          have en : naH Mr A (mkB c q) (k + 1) = naH Mr A (mkB c q) k + wzK Mr (A.K k) (A.n k) := by
            show naH Mr A (mkB c q) k + (if mkB c q k = true then wzK Mr (A.K k) (A.n k) else 0) = _
            rw [if_pos (mkB_iff.mpr cm)]
          have st : b78_Memory_plan (Int32.ofNat (naH Mr A (mkB c q) k), Int32.ofNat (adH Mr A k), X) = some (.inl (Int32.ofNat (naH Mr A (mkB c q) (k + 1)), Int32.ofNat (adH Mr A (k + 1)), X1)) := by
            unfold b78_Memory_plan
            dsimp only
            have s1' : f_Memory_setWord (Int32.ofNat (adH Mr A k + OfNat.ofNat 3)) (Int32.ofNat (naH Mr A (mkB c q) k)) X = some X1 := s1
            rw [e7, if_neg c1, o_addR, wk', Option.bind_some, w3, if_neg (by decide), s1', Option.bind_some, sz', Option.bind_some, Option.bind_some, max4 wz.1 (by omega), o_add, o_add, en]
            rfl
          rw [lp_inl st]
          exact ih (k + 1) X1 _ s2 (by omega) (by omega) m'
        · have w3 : V.1 4 (adH Mr A k + 3) = 0 := by
            rw [m.w2 _ (fun j hj hq z => cm (by rw [ad_inj z]; exact hq))]
            exact (hr.ob k hk).h3
          have en : naH Mr A (mkB c q) (k + 1) = naH Mr A (mkB c q) k := by
            show naH Mr A (mkB c q) k + (if mkB c q k = true then wzK Mr (A.K k) (A.n k) else 0) = _
            rw [if_neg (fun z => cm (mkB_iff.mp z))]
            rfl
          have st : b78_Memory_plan (Int32.ofNat (naH Mr A (mkB c q) k), Int32.ofNat (adH Mr A k), X) = some (.inl (Int32.ofNat (naH Mr A (mkB c q) (k + 1)), Int32.ofNat (adH Mr A (k + 1)), X)) := by
            unfold b78_Memory_plan
            dsimp only
            rw [e7, if_neg c1, o_addR, wk', Option.bind_some, w3, if_pos rfl, sz, Option.bind_some, max4 wz.1 (by omega), o_add, en]
            rfl
          rw [lp_inl st]
          refine ih (k + 1) X V r (by omega) (by omega) ⟨m.m6, m.mo, m.td, fun j hj hq => ?_, m.w2, m.ot⟩
          rw [m.w1 j hj hq]
          by_cases cj : j < k
          · rw [if_pos cj, if_pos (by omega)]
          · have : j ≠ k := fun e => cm (by rw [← e]; exact hq)
            rw [if_neg cj, if_neg (by omega)]
  exact key 10000 0 X V r (by omega) (by omega) ⟨m.m6, m.mo, m.td, fun j hj hq => by rw [m.w1 j hj hq, if_neg (by omega)], m.w2, m.ot⟩
