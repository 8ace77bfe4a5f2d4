/-! R2 -/
set_option maxRecDepth 20000 in
set_option maxHeartbeats 4000000 in
theorem pig : ∀ N m (f : Nat → Nat), N < m → (∀ i, i < m → f i < N) → ∃ i j, i < m ∧ j < m ∧ i ≠ j ∧ f i = f j := by
  intro N
  induction N with
  | zero => intro m f h1 h2; have := h2 0 (by omega); omega
  | succ N ih =>
    intro m f h1 h2
    by_cases c : ∃ i, i < m - 1 ∧ f i = f (m - 1)
    · obtain ⟨i, a, b⟩ := c
      exact ⟨i, m - 1, by omega, by omega, by omega, b⟩
    · have g := ih (m - 1) (fun i => if f i = N then f (m - 1) else f i) (by omega) (fun i hi => by
        show (if f i = N then f (m - 1) else f i) < N
        have a := h2 i (by omega)
        have b := h2 (m - 1) (by omega)
        have d : f i ≠ f (m - 1) := fun e => c ⟨i, hi, e⟩
        by_cases e : f i = N
        · rw [if_pos e]; omega
        · rw [if_neg e]; omega)
      obtain ⟨i, j, a1, a2, a3, a4⟩ := g
      have a4' : (if f i = N then f (m - 1) else f i) = (if f j = N then f (m - 1) else f j) := a4
      have d1 : f i ≠ f (m - 1) := fun e => c ⟨i, a1, e⟩
      have d2 : f j ≠ f (m - 1) := fun e => c ⟨j, a2, e⟩
      refine ⟨i, j, by omega, by omega, a3, ?_⟩
      by_cases e1 : f i = N
      · by_cases e2 : f j = N
        · rw [e1, e2]
        · rw [if_pos e1, if_neg e2] at a4'
          exact absurd a4'.symm d2
      · by_cases e2 : f j = N
        · rw [if_neg e1, if_pos e2] at a4'
          exact absurd a4' d1
        · rw [if_neg e1, if_neg e2] at a4'
          exact a4'
def inq (c : Nat) (q : Nat → Nat) (k : Nat) : Prop := ∃ j, j < c ∧ q j = k
/-- the class while it marks: q 0 .. q (c - 1) are marked -/
def MX (Mr : MS) (A : HG) (V0 : MS) (c : Nat) (q : Nat → Nat) (V : MS) : Prop := (V.1 1041 6 = Int32.ofNat c) ∧ (∀ f, f ≠ 6 → V.1 1041 f = V0.1 1041 f) ∧ (∀ j, j < c → q j < A.N ∧ V.1 5 j = Int32.ofNat (adH Mr A (q j))) ∧ (∀ i j, i < c → j < c → q i = q j → i = j) ∧ (∀ k, k < A.N → inq c q k → V.1 4 (adH Mr A k + 3) = 1) ∧ (∀ p, (∀ k, k < A.N → inq c q k → p ≠ adH Mr A k + 3) → V.1 4 p = V0.1 4 p) ∧ (∀ a, a ≠ 4 → a ≠ 5 → a ≠ 1041 → V.1 a = V0.1 a)
theorem MX.m6 {Mr : MS} {A : HG} {V0 : MS} {c : Nat} {q : Nat → Nat} {V : MS} (h0 : MX Mr A V0 c q V) : V.1 1041 6 = Int32.ofNat c := h0.1
theorem MX.mo {Mr : MS} {A : HG} {V0 : MS} {c : Nat} {q : Nat → Nat} {V : MS} (h0 : MX Mr A V0 c q V) : ∀ f, f ≠ 6 → V.1 1041 f = V0.1 1041 f := h0.2.1
theorem MX.td {Mr : MS} {A : HG} {V0 : MS} {c : Nat} {q : Nat → Nat} {V : MS} (h0 : MX Mr A V0 c q V) : ∀ j, j < c → q j < A.N ∧ V.1 5 j = Int32.ofNat (adH Mr A (q j)) := h0.2.2.1
theorem MX.qi {Mr : MS} {A : HG} {V0 : MS} {c : Nat} {q : Nat → Nat} {V : MS} (h0 : MX Mr A V0 c q V) : ∀ i j, i < c → j < c → q i = q j → i = j := h0.2.2.2.1
theorem MX.w1 {Mr : MS} {A : HG} {V0 : MS} {c : Nat} {q : Nat → Nat} {V : MS} (h0 : MX Mr A V0 c q V) : ∀ k, k < A.N → inq c q k → V.1 4 (adH Mr A k + 3) = 1 := h0.2.2.2.2.1
theorem MX.w2 {Mr : MS} {A : HG} {V0 : MS} {c : Nat} {q : Nat → Nat} {V : MS} (h0 : MX Mr A V0 c q V) : ∀ p, (∀ k, k < A.N → inq c q k → p ≠ adH Mr A k + 3) → V.1 4 p = V0.1 4 p := h0.2.2.2.2.2.1
theorem MX.ot {Mr : MS} {A : HG} {V0 : MS} {c : Nat} {q : Nat → Nat} {V : MS} (h0 : MX Mr A V0 c q V) : ∀ a, a ≠ 4 → a ≠ 5 → a ≠ 1041 → V.1 a = V0.1 a := h0.2.2.2.2.2.2
set_option maxRecDepth 20000 in
set_option maxHeartbeats 4000000 in
theorem MX.c {Mr : MS} {A : HG} {V0 V : MS} {c : Nat} {q : Nat → Nat} (m : MX Mr A V0 c q V) : c ≤ A.N := by
  apply Classical.byContradiction
  intro h
  obtain ⟨i, j, a, b, d, e⟩ := pig A.N c q (by omega) (fun i hi => (m.td i hi).1)
  exact d (m.qi i j a b e)
set_option maxRecDepth 20000 in
set_option maxHeartbeats 4000000 in
theorem ad_inj {Mr : MS} {A : HG} {j k : Nat} (h : adH Mr A j + 3 = adH Mr A k + 3) : j = k := by
  have w1 := wz4 Mr (A.K j) (A.n j)
  have w2 := wz4 Mr (A.K k) (A.n k)
  rcases Nat.lt_trichotomy j k with z | z | z
  · have := adH_mono Mr A k z; omega
  · exact z
  · have := adH_mono Mr A j z; omega
set_option maxRecDepth 20000 in
set_option maxHeartbeats 4000000 in
/-- words of objects that marking leaves alone -/
theorem MX.wd {Mr : MS} {A : HG} {V0 V : MS} {c : Nat} {q : Nat → Nat} (m : MX Mr A V0 c q V) {k p : Nat} (hk : k < A.N) (h1 : adH Mr A k ≤ p) (h2 : p < adH Mr A k + wzK Mr (A.K k) (A.n k)) (h3 : p ≠ adH Mr A k + 3) : V.1 4 p = V0.1 4 p := by
  refine m.w2 p (fun j hj _ e => ?_)
  have w1 := wz4 Mr (A.K j) (A.n j)
  rcases Nat.lt_trichotomy j k with z | z | z
  · have := adH_mono Mr A k z; omega
  · subst z; exact h3 e
  · have := adH_mono Mr A j z; omega
set_option maxRecDepth 20000 in
set_option maxHeartbeats 4000000 in
theorem mark_ok {Mr : MS} {kc hp : Nat} {A : HG} {V0 M0 : MS} (hr : HR Mr kc A hp V0 M0) {X0 : XS} {T0 : Nat → Nat} {X : XS} {T C : Nat → Nat} {n : Nat} {V : MS} (r : RV X0 T0 X T C n V) {c : Nat} {q : Nat → Nat} (m : MX Mr A V0 c q V) {x : Int32} (hx : x = 0 ∨ ∃ k, k < A.N ∧ x = Int32.ofNat (adH Mr A k)) : ∃ X' V' c' q', f_Memory_mark x X = some X' ∧ RV X0 T0 X' T C n V' ∧ MX Mr A V0 c' q' V' ∧ c ≤ c' ∧ (∀ j, j < c → q' j = q j) ∧ ∀ k, inq c' q' k ↔ inq c q k ∨ (k < A.N ∧ x = Int32.ofNat (adH Mr A k)) := by
  have N1 := hr.N1000
  have cN := m.c
  rcases hx with e | ⟨k, hk, e⟩
  · subst e
    refine ⟨X, V, c, q, ?_, r, m, Nat.le_refl _, fun _ _ => rfl, fun k => ⟨Or.inl, fun z => ?_⟩⟩
    · unfold f_Memory_mark
      rw [if_pos (by decide)]
    · rcases z with z | ⟨h1, h2⟩
      · exact z
      · exfalso
        have b := hr.bd h1
        have a := adH_ge Mr A k
        rw [show (0 : Int32) = Int32.ofNat 0 from rfl, o_eq _ _ (by omega) (by omega)] at h2
        omega
  · subst e
    have bd := hr.bd hk
    have wz := wz4 Mr (A.K k) (A.n k)
    have mono := adH_mono Mr A A.N hk
    have x1 : ¬ Int32.ofNat (adH Mr A k) < 1 := by rw [o_ltR _ _ (by omega) (by decide)]; show ¬ adH Mr A k < 1; omega
    have e7 : X.1 41 7 = Int32.ofNat (adH Mr A A.N) := by
      rw [r.rf (a := 41) (by unfold Fx; omega), show 1000 + 41 = 1041 from rfl, m.mo 7 (by omega)]
      exact hr.top
    have x2 : ¬ Int32.ofNat (adH Mr A A.N) < Int32.ofNat (adH Mr A k + 4) := by rw [o_lt _ _ (by omega) (by omega)]; omega
    have uniq : ∀ k', k' < A.N → Int32.ofNat (adH Mr A k) = Int32.ofNat (adH Mr A k') → k' = k := by
      intro k' hk' e
      have b' := hr.bd hk'
      rw [o_eq _ _ (by omega) (by omega)] at e
      exact ad_inj (Mr := Mr) (A := A) (j := k') (k := k) (by omega)
    have wk := word_eq r (j := adH Mr A k + 3) (by omega)
    by_cases cm : inq c q k
    · refine ⟨X, V, c, q, ?_, r, m, Nat.le_refl _, fun _ _ => rfl, fun k' => ⟨Or.inl, fun z => ?_⟩⟩
      · unfold f_Memory_mark
        rw [if_neg x1, o_addR, e7, if_neg x2, o_addR, wk, Option.bind_some, m.w1 k hk cm, if_pos (by decide)]
      · rcases z with z | ⟨h1, h2⟩
        · exact z
        · rw [uniq k' h1 h2]; exact cm
    · have w0 : V.1 4 (adH Mr A k + 3) = 0 := by
        rw [m.w2 _ (fun j hj hq e => cm (by rw [ad_inj e]; exact hq))]
        exact (hr.ob k hk).h3
      have e6 : X.1 41 6 = Int32.ofNat c := by
        rw [r.rf (a := 41) (by unfold Fx; omega)]
        exact m.m6
      obtain ⟨X1, s1, s2⟩ := setWord_eq r (j := adH Mr A k + 3) (by omega) (by omega) 1
      have l5 : Lv n 5 := Or.inl (by omega)
      have e6' : X1.1 41 6 = Int32.ofNat c := by
        rw [s2.rf (a := 41) (by unfold Fx; omega), mwr _ _ _ (by omega)]
        exact m.m6
      have r5 := s2.w l5 c (Int32.ofNat (adH Mr A k))
      have r6 := r5.f (a := 41) (by unfold Fx; omega) 6 (Int32.ofNat (c + 1))
      have e6'' : (xw X1 (C 5) c (Int32.ofNat (adH Mr A k))).1 41 6 = Int32.ofNat c := by
        rw [r5.rf (a := 41) (by unfold Fx; omega), mwr _ _ _ (by omega), mwr _ _ _ (by omega)]
        exact m.m6
      have qn : ∀ j, j < c → q j ≠ k := fun j hj e => cm ⟨j, hj, e⟩
      have cl : c < A.N := by
        apply Classical.byContradiction
        intro h
        have ec : c = A.N := by omega
        obtain ⟨i, j, a, b, d, e⟩ := pig A.N (A.N + 1) (fun j => if j = c then k else q j) (by omega) (fun i hi => by
          show (if i = c then k else q i) < A.N
          by_cases z : i = c
          · rw [if_pos z]; exact hk
          · rw [if_neg z]; exact (m.td i (by omega)).1)
        have e' : (if i = c then k else q i) = (if j = c then k else q j) := e
        by_cases z1 : i = c
        · by_cases z2 : j = c
          · omega
          · rw [if_pos z1, if_neg z2] at e'
            exact qn j (by omega) e'.symm
        · by_cases z2 : j = c
          · rw [if_neg z1, if_pos z2] at e'
            exact qn i (by omega) e'
          · rw [if_neg z1, if_neg z2] at e'
            exact d (m.qi i j (by omega) (by omega) e')
      have lc : Int32.ofNat c < Int32.ofNat 1001 := by rw [o_lt _ _ (by omega) (by omega)]; omega
      refine ⟨_, _, c + 1, fun j => if j = c then k else q j, ?_, r6, ?_, by omega, fun j hj => if_neg (by omega), ?_⟩
      · unfold f_Memory_mark
        rw [if_neg x1, o_addR, e7, if_neg x2, o_addR, wk, Option.bind_some, w0, if_neg (fun z => z rfl)]
        refine (Ez r.m2.1).trans ((Ez r.m2.2).trans ?_)
        have s1' : f_Memory_setWord (Int32.ofNat (adH Mr A k + OfNat.ofNat 3)) 1 X = some X1 := s1
        rw [e6, if_pos lc, s1', Option.bind_some]
        refine (Ez s2.m2.1).trans ((Ez s2.m2.2).trans ?_)
        rw [e6', if_pos (ixl (show c < 1001 by omega) (by omega)), o_cl _ (by omega)]
        dsimp only [lt]
        rw [e6'', o_addR]
      · have inq' : ∀ k', inq (c + 1) (fun j => if j = c then k else q j) k' ↔ inq c q k' ∨ k' = k := by
          intro k'
          constructor
          · intro ⟨j, hj, e⟩
            have e' : (if j = c then k else q j) = k' := e
            by_cases z : j = c
            · rw [if_pos z] at e'; exact Or.inr e'.symm
            · rw [if_neg z] at e'; exact Or.inl ⟨j, by omega, e'⟩
          · intro z
            rcases z with ⟨j, hj, e⟩ | z
            · exact ⟨j, by omega, by show (if j = c then k else q j) = k'; rw [if_neg (by omega)]; exact e⟩
            · exact ⟨c, by omega, by show (if c = c then k else q c) = k'; rw [if_pos rfl, z]⟩
        have v4 : ∀ p, (mw (mw (mw V 4 (adH Mr A k + 3) (Int32.ofNat (1 % 65536))) 5 c (Int32.ofNat (adH Mr A k))) (1000 + 41) 6 (Int32.ofNat (c + 1))).1 4 p = if p = adH Mr A k + 3 then 1 else V.1 4 p := fun p => by
          rw [mwr _ _ _ (by omega), mwr _ _ _ (by omega), mw1]
          simp only [true_and]
          rfl
        refine ⟨by rw [mw1, if_pos ⟨rfl, rfl⟩], ?_, ?_, ?_, ?_, ?_, ?_⟩
        · intro f hf
          rw [mwi _ _ _ hf, mwr _ _ _ (by omega), mwr _ _ _ (by omega)]
          exact m.mo f hf
        · intro j hj
          rw [mwr _ _ _ (by omega)]
          by_cases z : j = c
          · subst z
            rw [mw1, if_pos ⟨rfl, rfl⟩]
            show (if j = j then k else q j) < A.N ∧ _ = Int32.ofNat (adH Mr A (if j = j then k else q j))
            rw [if_pos rfl]
            exact ⟨hk, rfl⟩
          · rw [mwi _ _ _ z, mwr _ _ _ (by omega)]
            show (if j = c then k else q j) < A.N ∧ _ = Int32.ofNat (adH Mr A (if j = c then k else q j))
            rw [if_neg z]
            exact m.td j (by omega)
        · intro i j h1 h2 e0
          have e : (if i = c then k else q i) = (if j = c then k else q j) := e0
          by_cases z1 : i = c
          · by_cases z2 : j = c
            · omega
            · rw [if_pos z1, if_neg z2] at e
              exact absurd e.symm (qn j (by omega))
          · by_cases z2 : j = c
            · rw [if_neg z1, if_pos z2] at e
              exact absurd e (qn i (by omega))
            · rw [if_neg z1, if_neg z2] at e
              exact m.qi i j (by omega) (by omega) e
        · intro k' hk' hq
          rw [v4]
          by_cases z : k' = k
          · rw [z, if_pos rfl]
          · rw [if_neg (fun e => z (ad_inj e))]
            rcases (inq' k').mp hq with y | y
            · exact m.w1 k' hk' y
            · exact absurd y z
        · intro p hp
          have pk : p ≠ adH Mr A k + 3 := hp k hk ((inq' k).mpr (Or.inr rfl))
          rw [v4, if_neg pk]
          exact m.w2 p (fun k' hk' hq => hp k' hk' ((inq' k').mpr (Or.inl hq)))
        · intro a h1 h2 h3
          rw [mwr _ _ _ (by omega), mwr _ _ _ h2, mwr _ _ _ h1]
          exact m.ot a h1 h2 h3
      · intro k'
        constructor
        · intro ⟨j, hj, e⟩
          have e' : (if j = c then k else q j) = k' := e
          by_cases z : j = c
          · rw [if_pos z] at e'; exact Or.inr ⟨by rw [← e']; exact hk, by rw [e']⟩
          · rw [if_neg z] at e'; exact Or.inl ⟨j, by omega, e'⟩
        · intro z
          rcases z with ⟨j, hj, e⟩ | ⟨h1, h2⟩
          · exact ⟨j, by omega, by show (if j = c then k else q j) = k'; rw [if_neg (by omega)]; exact e⟩
          · exact ⟨c, by omega, by show (if c = c then k else q c) = k'; rw [if_pos rfl, uniq k' h1 h2]⟩
