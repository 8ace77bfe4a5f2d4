/-! R4 -/
set_option maxRecDepth 20000 in
set_option maxHeartbeats 4000000 in
theorem word_any {X0 : XS} {T0 : Nat → Nat} {X : XS} {T C : Nat → Nat} {n : Nat} {V : MS} (r : RV X0 T0 X T C n V) {j : Nat} (hj : j < 2147483648) : ∃ w, f_Memory_word (Int32.ofNat j) X = some w := by
  by_cases c : j < 4001
  · exact ⟨_, word_eq r c⟩
  · refine ⟨0, ?_⟩
    unfold f_Memory_word
    rw [if_neg (by rw [o_lt0 _ hj]; exact fun q => q)]
    refine (Ez r.m1.1).trans ((Ez r.m1.2).trans (if_pos ?_))
    rw [o_le _ _ (by omega) hj]
    omega
set_option maxRecDepth 20000 in
set_option maxHeartbeats 4000000 in
/-- where an object's references lie, how many, how long it is -/
theorem obj_ok {Mr : MS} {kc : Nat} {A : HG} (hkc : kc ≤ 10) {X0 : XS} {T0 : Nat → Nat} {X : XS} {T C : Nat → Nat} {n : Nat} {V : MS} (r : RV X0 T0 X T C n V) {k : Nat} (ok : KOk Mr kc (A.K k) (A.n k)) (hb : adH Mr A k + wzK Mr (A.K k) (A.n k) ≤ 4001) (h0 : V.1 4 (adH Mr A k) = Int32.ofNat (kcode Mr (A.K k))) (h4 : 10 ≤ A.K k → V.1 4 (adH Mr A k + 4) = Int32.ofNat (A.n k)) (fld : ∀ c, c < kc → fm Mr 77 c → V.1 1045 (kn Mr c) = Int32.ofNat (aI Mr c) ∧ V.1 1046 (kn Mr c) = Int32.ofNat (aF Mr c)) : ∃ fr, fr ≤ 4001 ∧ f_Memory_firstRef (Int32.ofNat (adH Mr A k)) X = some (Int32.ofNat fr) ∧ (0 < nrK Mr (A.K k) (A.n k) → fr = adH Mr A k + hdK (A.K k) + 2 * niK Mr (A.K k) (A.n k)) ∧ f_Memory_refsIn (Int32.ofNat (adH Mr A k)) X = some (Int32.ofNat (nrK Mr (A.K k) (A.n k))) ∧ f_Memory_sizeAt (Int32.ofNat (adH Mr A k)) X = some (Int32.ofNat (wzK Mr (A.K k) (A.n k))) := by
  have wz := wz4 Mr (A.K k) (A.n k)
  have hd := hdK_le (A.K k)
  have nk := NK_le Mr
  have ew : wzK Mr (A.K k) (A.n k) = hdK (A.K k) + 2 * niK Mr (A.K k) (A.n k) + nrK Mr (A.K k) (A.n k) := rfl
  have wd := word_eq r (j := adH Mr A k) (by omega)
  rw [h0] at wd
  obtain ⟨w5, hw5⟩ := word_any r (j := adH Mr A k + 4) (by omega)
  rcases ok with ⟨z1, z2, z3, z4⟩ | ⟨z1, z2⟩
  · have kl := kn_lt (show A.K k < 10 by omega) z3
    have ek : kcode Mr (A.K k) = kn Mr (A.K k) := by unfold kcode; rw [if_pos (by omega)]
    have ni : niK Mr (A.K k) (A.n k) = aI Mr (A.K k) := by unfold niK; rw [if_pos (by omega)]
    have nr : nrK Mr (A.K k) (A.n k) = aF Mr (A.K k) := by unfold nrK; rw [if_pos (by omega)]
    have hd4 : hdK (A.K k) = 4 := by unfold hdK; rw [if_pos (by omega)]
    have fl := fld _ z1 z3
    rw [ek] at wd
    have rg : 0 ≤ Int32.ofNat (kn Mr (A.K k)) ∧ Int32.ofNat (kn Mr (A.K k)) ≤ 9 := by rw [o_0le _ (by omega), o_leR _ _ (by omega) (by decide)]; exact ⟨trivial, by show kn Mr (A.K k) ≤ 9; omega⟩
    refine ⟨adH Mr A k + 4 + 2 * aI Mr (A.K k), by omega, ?_, fun _ => by rw [hd4, ni], ?_, ?_⟩
    · unfold f_Memory_firstRef
      rw [wd, Option.bind_some, if_pos rg, o_cl _ (by omega), r.rf (a := 45) (by unfold Fx; omega), fl.1, o_addR, o_mulL, o_add]
    · unfold f_Memory_refsIn
      rw [wd, Option.bind_some, if_pos rg, o_cl _ (by omega), r.rf (a := 46) (by unfold Fx; omega), fl.2, nr]
    · unfold f_Memory_sizeAt f_Memory_wordsFor
      have hw5' : f_Memory_word (Int32.ofNat (adH Mr A k + OfNat.ofNat 4)) X = some w5 := hw5
      rw [wd, Option.bind_some, o_addR, hw5', Option.bind_some, if_neg (by rw [o_lt0 _ (by omega)]; exact fun q => q), if_neg (by rw [o_leL _ _ (by decide) (by omega)]; show ¬ 10 ≤ kn Mr (A.K k); omega), o_cl _ (by omega), r.rf (a := 45) (by unfold Fx; omega), r.rf (a := 46) (by unfold Fx; omega), fl.1, fl.2, o_mulL, o_addL, o_add, ew, hd4, ni, nr]
  · have n10 : ¬ A.K k < 10 := by omega
    have hd5 : hdK (A.K k) = 5 := by unfold hdK; rw [if_neg n10]
    have w4 := word_eq r (j := adH Mr A k + 4) (by omega)
    rw [h4 (by omega)] at w4
    have w4' : f_Memory_word (Int32.ofNat (adH Mr A k + OfNat.ofNat 4)) X = some (Int32.ofNat (A.n k)) := w4
    rcases z1 with e | e
    · have ek : kcode Mr (A.K k) = 254 := by unfold kcode; rw [if_neg n10, if_pos e]
      have ni : niK Mr (A.K k) (A.n k) = A.n k := by unfold niK; rw [if_neg n10, if_pos e]
      have nr : nrK Mr (A.K k) (A.n k) = 0 := by unfold nrK; rw [if_neg n10, if_pos e]
      rw [ek] at wd
      refine ⟨adH Mr A k + 5, by omega, ?_, fun h => by omega, ?_, ?_⟩
      · unfold f_Memory_firstRef
        rw [wd, Option.bind_some, if_neg (by decide), o_addR]
      · unfold f_Memory_refsIn
        rw [wd, Option.bind_some, if_neg (by decide), if_pos (by decide), nr]
        rfl
      · unfold f_Memory_sizeAt f_Memory_wordsFor
        rw [wd, Option.bind_some, o_addR, w4', Option.bind_some, if_neg (by decide), if_pos (by decide), if_neg (fun q => q rfl), o_mulL, o_addL, ew, hd5, ni, nr]
        rfl
    · have ek : kcode Mr (A.K k) = 255 := by unfold kcode; rw [if_neg n10, if_neg (by omega)]
      have ni : niK Mr (A.K k) (A.n k) = 0 := by unfold niK; rw [if_neg n10, if_neg (by omega)]
      have nr : nrK Mr (A.K k) (A.n k) = A.n k := by unfold nrK; rw [if_neg n10, if_neg (by omega)]
      rw [ek] at wd
      refine ⟨adH Mr A k + 5, by omega, ?_, fun h => by rw [hd5, ni], ?_, ?_⟩
      · unfold f_Memory_firstRef
        rw [wd, Option.bind_some, if_neg (by decide), o_addR]
      · unfold f_Memory_refsIn
        rw [wd, Option.bind_some, if_neg (by decide), if_neg (fun q => q rfl), o_addR, w4', nr]
        rfl
      · unfold f_Memory_sizeAt f_Memory_wordsFor
        rw [wd, Option.bind_some, o_addR, w4', Option.bind_some, if_neg (by decide), if_pos (by decide), if_pos (by decide), o_addL, ew, hd5, ni, nr]
set_option maxRecDepth 20000 in
set_option maxHeartbeats 4000000 in
theorem MX.obj {Mr : MS} {kc hp : Nat} {A : HG} {V0 M0 : MS} (hr : HR Mr kc A hp V0 M0) (hkc : kc ≤ 10) {X0 : XS} {T0 : Nat → Nat} {X : XS} {T C : Nat → Nat} {n : Nat} {V : MS} (r : RV X0 T0 X T C n V) {c : Nat} {q : Nat → Nat} (m : MX Mr A V0 c q V) {k : Nat} (hk : k < A.N) : ∃ fr, fr ≤ 4001 ∧ f_Memory_firstRef (Int32.ofNat (adH Mr A k)) X = some (Int32.ofNat fr) ∧ (0 < nrK Mr (A.K k) (A.n k) → fr = adH Mr A k + hdK (A.K k) + 2 * niK Mr (A.K k) (A.n k)) ∧ f_Memory_refsIn (Int32.ofNat (adH Mr A k)) X = some (Int32.ofNat (nrK Mr (A.K k) (A.n k))) ∧ f_Memory_sizeAt (Int32.ofNat (adH Mr A k)) X = some (Int32.ofNat (wzK Mr (A.K k) (A.n k))) := by
  have ob := hr.ob k hk
  have bd := hr.bd hk
  have wz := wz4 Mr (A.K k) (A.n k)
  have hd := hdK_le (A.K k)
  have ew : wzK Mr (A.K k) (A.n k) = hdK (A.K k) + 2 * niK Mr (A.K k) (A.n k) + nrK Mr (A.K k) (A.n k) := rfl
  refine obj_ok hkc r ob.ok bd.2.1 (by rw [m.wd hk (Nat.le_refl _) (by omega) (by omega)]; exact ob.h0) (fun h => ?_) ?_
  · have h5 : hdK (A.K k) = 5 := by unfold hdK; rw [if_neg (by omega)]
    rw [m.wd hk (by omega) (by omega) (by omega)]
    exact ob.h4 h
  · rw [m.ot 1045 (by omega) (by omega) (by omega), m.ot 1046 (by omega) (by omega) (by omega)]
    exact hr.fld
/-- an object holds a reference to another -/
def Ed (Mr : MS) (A : HG) (V0 : MS) (k k' : Nat) : Prop := k' < A.N ∧ ∃ j, j < nrK Mr (A.K k) (A.n k) ∧ V0.1 4 (adH Mr A k + hdK (A.K k) + 2 * niK Mr (A.K k) (A.n k) + j) = Int32.ofNat (adH Mr A k')
set_option maxRecDepth 20000 in
set_option maxHeartbeats 4000000 in
theorem plan1_ok {Mr : MS} {kc hp : Nat} {A : HG} {V0 M0 : MS} (hr : HR Mr kc A hp V0 M0) (hkc : kc ≤ 10) {X0 : XS} {T0 : Nat → Nat} {X : XS} {T C : Nat → Nat} {n : Nat} {V : MS} (r : RV X0 T0 X T C n V) {R : Nat → Prop} (m : MXS Mr A V0 R V) : ∃ z X' V' c q, lp (b2_Memory_plan) 10000 ((0 : Int32), X) = some (z, X') ∧ RV X0 T0 X' T C n V' ∧ MX Mr A V0 c q V' ∧ (∀ k, R k → inq c q k) ∧ (∀ k k', inq c q k → Ed Mr A V0 k k' → inq c q k') ∧ ∀ P : Nat → Prop, (∀ k, R k → P k) → (∀ k k', k < A.N → P k → Ed Mr A V0 k k' → P k') → ∀ k, inq c q k → P k := by
  have N1 := hr.N1000
  have inner : ∀ N i k c q X V fr, RV X0 T0 X T C n V → k < A.N → MX Mr A V0 c q V → fr ≤ 4001 → (0 < nrK Mr (A.K k) (A.n k) → fr = adH Mr A k + hdK (A.K k) + 2 * niK Mr (A.K k) (A.n k)) → i ≤ nrK Mr (A.K k) (A.n k) → nrK Mr (A.K k) (A.n k) - i < N → ∃ z X' V' c' q', lp (b44_Memory_plan (Int32.ofNat fr) (Int32.ofNat (nrK Mr (A.K k) (A.n k)))) N (Int32.ofNat i, X) = some (z, X') ∧ RV X0 T0 X' T C n V' ∧ MX Mr A V0 c' q' V' ∧ c ≤ c' ∧ (∀ j, j < c → q' j = q j) ∧ ∀ k', inq c' q' k' ↔ inq c q k' ∨ (k' < A.N ∧ ∃ j, i ≤ j ∧ j < nrK Mr (A.K k) (A.n k) ∧ V0.1 4 (adH Mr A k + hdK (A.K k) + 2 * niK Mr (A.K k) (A.n k) + j) = Int32.ofNat (adH Mr A k')) := by
    intro N
    induction N with
    | zero => intro i k c q X V fr _ _ _ _ _ h1 h2; omega
    | succ N ih =>
      intro i k c q X V fr r hk m hf0 hf h1 h2
      have bd := hr.bd hk
      have ew : wzK Mr (A.K k) (A.n k) = hdK (A.K k) + 2 * niK Mr (A.K k) (A.n k) + nrK Mr (A.K k) (A.n k) := rfl
      have hd := hdK_le (A.K k)
      by_cases e : i = nrK Mr (A.K k) (A.n k)
      · refine ⟨Int32.ofNat i, X, V, c, q, lp_inr ?_, r, m, Nat.le_refl _, fun _ _ => rfl, fun k' => ⟨Or.inl, fun z => ?_⟩⟩
        · unfold b44_Memory_plan
          rw [if_pos (by rw [e]; exact Int32.le_refl _)]
        · rcases z with z | ⟨_, j, a, b, _⟩
          · exact z
          · omega
      · have hfr := hf (by omega)
        have c1 : ¬ Int32.ofNat (nrK Mr (A.K k) (A.n k)) ≤ Int32.ofNat i := by rw [o_le _ _ (by omega) (by omega)]; omega
        have wv : V.1 4 (fr + i) = V0.1 4 (fr + i) := m.wd hk (by omega) (by omega) (by omega)
        have rx := ((hr.ob k hk).refs i (by omega)).rx
        rw [← hfr] at rx
        obtain ⟨X1, V1, c1', q1', e1, e2, e3, e4, e5, e6⟩ := mark_ok hr r m rx
        have st : b44_Memory_plan (Int32.ofNat fr) (Int32.ofNat (nrK Mr (A.K k) (A.n k))) (Int32.ofNat i, X) = some (.inl (Int32.ofNat (i + 1), X1)) := by
          unfold b44_Memory_plan
          rw [if_neg c1]
          dsimp only
          rw [o_add, word_eq r (by omega), Option.bind_some, wv, e1, Option.bind_some, o_addR]
        obtain ⟨z, X', V', c', q', f1, f2, f3, f4, f5, f6⟩ := ih (i + 1) k c1' q1' X1 V1 fr e2 hk e3 hf0 hf (by omega) (by omega)
        rw [lp_inl st]
        refine ⟨z, X', V', c', q', f1, f2, f3, by omega, fun j hj => by rw [f5 j (by omega), e5 j hj], fun k' => ?_⟩
        rw [f6, e6, ← hfr]
        constructor
        · intro z
          rcases z with (z | ⟨a, b⟩) | ⟨a, j, b, d, e⟩
          · exact Or.inl z
          · exact Or.inr ⟨a, i, Nat.le_refl _, by omega, b⟩
          · exact Or.inr ⟨a, j, by omega, d, e⟩
        · intro z
          rcases z with z | ⟨a, j, b, d, e'⟩
          · exact Or.inl (Or.inl z)
          · by_cases ej : j = i
            · subst ej; exact Or.inl (Or.inr ⟨a, e'⟩)
            · exact Or.inr ⟨a, j, by omega, d, e'⟩
  have outer : ∀ N i c q X V, RV X0 T0 X T C n V → MX Mr A V0 c q V → i ≤ c → A.N - i < N → (∀ k, R k → inq c q k) → (∀ j k', j < i → Ed Mr A V0 (q j) k' → inq c q k') → (∀ P : Nat → Prop, (∀ k, R k → P k) → (∀ k k', k < A.N → P k → Ed Mr A V0 k k' → P k') → ∀ k, inq c q k → P k) → ∃ z X' V' c q, lp (b2_Memory_plan) N (Int32.ofNat i, X) = some (z, X') ∧ RV X0 T0 X' T C n V' ∧ MX Mr A V0 c q V' ∧ (∀ k, R k → inq c q k) ∧ (∀ k k', inq c q k → Ed Mr A V0 k k' → inq c q k') ∧ ∀ P : Nat → Prop, (∀ k, R k → P k) → (∀ k k', k < A.N → P k → Ed Mr A V0 k k' → P k') → ∀ k, inq c q k → P k := by
    intro N
    induction N with
    | zero => intro i c q X V _ m h1 h2; have := m.c; omega
    | succ N ih =>
      intro i c q X V r m h1 h2 i1 i2 i3
      have cN := m.c
      have e6 : X.1 41 6 = Int32.ofNat c := by rw [r.rf (a := 41) (by unfold Fx; omega)]; exact m.m6
      by_cases e : i = c
      · subst e
        refine ⟨Int32.ofNat i, X, V, i, q, lp_inr ?_, r, m, i1, fun k k' hk he => ?_, i3⟩
        · unfold b2_Memory_plan
          dsimp only
          rw [e6, if_pos (Int32.le_refl _)]
        · obtain ⟨j, hj, ej⟩ := hk
          exact i2 j k' hj (by rw [ej]; exact he)
      · obtain ⟨t1, t2⟩ := m.td i (by omega)
        have cl : (Int32.ofNat i).toNatClampNeg = i := o_cl _ (by omega)
        have l5 : Lv n 5 := Or.inl (by omega)
        have v5 : X.1 (C 5) i = Int32.ofNat (adH Mr A (q i)) := by rw [r.rd l5]; exact t2
        obtain ⟨fr, g0, g1, g2, g3, _⟩ := m.obj hr hkc r t1
        have nb := hr.bd t1
        have ew : wzK Mr (A.K (q i)) (A.n (q i)) = hdK (A.K (q i)) + 2 * niK Mr (A.K (q i)) (A.n (q i)) + nrK Mr (A.K (q i)) (A.n (q i)) := rfl
        obtain ⟨z, X1, V1, c1, q1, f1, f2, f3, f4, f5, f6⟩ := inner 10000 0 (q i) c q X V fr r t1 m g0 g2 (by omega) (by omega)
        have f1' : lp (b44_Memory_plan (Int32.ofNat fr) (Int32.ofNat (nrK Mr (A.K (q i)) (A.n (q i))))) 10000 ((0 : Int32), X) = some (z, X1) := f1
        have n1 : ¬ Int32.ofNat c ≤ Int32.ofNat i := by rw [o_le _ _ (by omega) (by omega)]; omega
        have n2 : ¬ Int32.ofNat 1001 ≤ Int32.ofNat i := by rw [o_le _ _ (by omega) (by omega)]; omega
        have ix : ixo (Int32.ofNat i) 1001 := ixl (by omega) (by omega)
        have st : b2_Memory_plan (Int32.ofNat i, X) = some (.inl (Int32.ofNat (i + 1), X1)) := by
          unfold b2_Memory_plan
          dsimp only
          rw [e6]
          refine (if_neg n1).trans ((Ez r.m2.1).trans ((Ez r.m2.2).trans ((if_neg n2).trans ((Ez r.m2.1).trans ((Ez r.m2.2).trans ((if_pos ix).trans ?_))))))
          simp only [cl]
          rw [v5, g1, Option.bind_some]
          refine (Ez r.m2.1).trans ((Ez r.m2.2).trans ((if_pos ix).trans ?_))
          rw [v5, g3, Option.bind_some, f1', Option.bind_some, o_addR]
        rw [lp_inl st]
        refine ih (i + 1) c1 q1 X1 V1 f2 f3 (by omega) (by omega) (fun k hk => (f6 k).mpr (Or.inl (i1 k hk))) ?_ ?_
        · intro j k' hj he
          rw [f5 j (by omega)] at he
          rw [f6]
          by_cases ej : j = i
          · subst ej
            obtain ⟨a, j', b, d⟩ := he
            exact Or.inr ⟨a, j', by omega, b, d⟩
          · exact Or.inl (i2 j k' (by omega) he)
        · intro P p1 p2 k hk
          rcases (f6 k).mp hk with z' | ⟨a, j', _, b, d⟩
          · exact i3 P p1 p2 k z'
          · exact p2 (q i) k t1 (i3 P p1 p2 (q i) ⟨i, by omega, rfl⟩) ⟨a, j', b, d⟩
  obtain ⟨c, q, m, hm⟩ := m
  exact outer 10000 0 c q X V r m (by omega) (by omega) (fun k hk => (hm k).mpr hk) (fun j k' hj => by omega) (fun P p1 _ k hk => p1 k ((hm k).mp hk))
