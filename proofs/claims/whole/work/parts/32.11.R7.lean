/-! R7 -/
def faH (Mr : MS) (A : HG) (k : Nat) : Nat := adH Mr A k + hdK (A.K k) + 2 * niK Mr (A.K k) (A.n k)
set_option maxRecDepth 20000 in
set_option maxHeartbeats 4000000 in
theorem fa_in (Mr : MS) (A : HG) (k : Nat) : adH Mr A k + 4 ≤ faH Mr A k ∧ faH Mr A k + nrK Mr (A.K k) (A.n k) = adH Mr A k + wzK Mr (A.K k) (A.n k) ∧ (10 ≤ A.K k → adH Mr A k + 5 ≤ faH Mr A k) := by
  have := hdK_le (A.K k)
  have ew : wzK Mr (A.K k) (A.n k) = hdK (A.K k) + 2 * niK Mr (A.K k) (A.n k) + nrK Mr (A.K k) (A.n k) := rfl
  unfold faH
  refine ⟨by omega, by omega, fun h => ?_⟩
  have h5 : hdK (A.K k) = 5 := by unfold hdK; rw [if_neg (by omega)]
  omega
set_option maxRecDepth 20000 in
set_option maxHeartbeats 4000000 in
/-- objects lie apart -/
theorem apart {Mr : MS} {A : HG} {j k p : Nat} (h1 : adH Mr A j ≤ p) (h2 : p < adH Mr A j + wzK Mr (A.K j) (A.n j)) (h3 : adH Mr A k ≤ p) (h4 : p < adH Mr A k + wzK Mr (A.K k) (A.n k)) : j = k := by
  rcases Nat.lt_trichotomy j k with z | z | z
  · have := adH_mono Mr A k z; omega
  · exact z
  · have := adH_mono Mr A j z; omega
set_option maxRecDepth 20000 in
set_option maxHeartbeats 4000000 in
theorem fwdF_ok {Mr : MS} {kc hp : Nat} {A : HG} {V0 M0 : MS} (hr : HR Mr kc A hp V0 M0) (hkc : kc ≤ 10) {X0 : XS} {T0 : Nat → Nat} {X : XS} {T C : Nat → Nat} {n : Nat} {V Vp : MS} {c : Nat} {q : Nat → Nat} (r : RV X0 T0 X T C n V) (f2 : F2 Mr A V0 c q A.N Vp) (qi : ∀ i j, i < c → j < c → q i = q j → i = j) (cN : c ≤ A.N) (h4 : V.1 4 = Vp.1 4) (h5 : V.1 5 = Vp.1 5) (h41 : V.1 1041 = Vp.1 1041) (h45 : V.1 1045 = Vp.1 1045 ∧ V.1 1046 = Vp.1 1046) : ∃ X' V', f_Memory_forwardFields X = some X' ∧ RV X0 T0 X' T C n V' ∧ (∀ a, a ≠ 4 → V'.1 a = V.1 a) ∧ (∀ j, j < c → ∀ e, e < nrK Mr (A.K (q j)) (A.n (q j)) → V'.1 4 (faH Mr A (q j) + e) = fwv Vp (Vp.1 4 (faH Mr A (q j) + e))) ∧ ∀ p, (∀ j, j < c → ∀ e, e < nrK Mr (A.K (q j)) (A.n (q j)) → p ≠ faH Mr A (q j) + e) → V'.1 4 p = Vp.1 4 p := by
  have N1 := hr.N1000
  have fwr : ∀ x, Rx Mr A x → ∃ w, w < 65536 ∧ fwv Vp x = Int32.ofNat w := by
    intro x hx
    unfold fwv
    rcases hx with e | ⟨k, hk, e⟩
    · rw [if_pos e]; exact ⟨0, by omega, rfl⟩
    · have bd := hr.bd hk
      have wz := wz4 Mr (A.K k) (A.n k)
      rw [if_neg (by rw [e, o_eqR _ _ (by omega) (by decide)]; show ¬ adH Mr A k = 0; omega), e, o_cl _ (by omega)]
      by_cases cm : inq c q k
      · have := naH_le Mr A (mkB c q) k
        rw [f2.w1 k hk cm, if_pos hk]
        exact ⟨_, by omega, rfl⟩
      · rw [f2.w2 _ (fun j hj hq z => cm (by rw [ad_inj z]; exact hq)), (hr.ob k hk).h3]
        exact ⟨0, by omega, rfl⟩
  have fvx : ∀ k, k < A.N → ∀ e, e < nrK Mr (A.K k) (A.n k) → Vp.1 4 (faH Mr A k + e) = V0.1 4 (faH Mr A k + e) ∧ Rx Mr A (Vp.1 4 (faH Mr A k + e)) := by
    intro k hk e he
    have fi := fa_in Mr A k
    have eq : Vp.1 4 (faH Mr A k + e) = V0.1 4 (faH Mr A k + e) := f2.wd (k := k) (by omega) (by omega) (by omega)
    refine ⟨eq, ?_⟩
    rw [eq]
    exact ((hr.ob k hk).refs e he).rx
  have inner : ∀ N e k X V1 fr, RV X0 T0 X T C n V1 → k < A.N → fr ≤ 4001 → (0 < nrK Mr (A.K k) (A.n k) → fr = faH Mr A k) → e ≤ nrK Mr (A.K k) (A.n k) → nrK Mr (A.K k) (A.n k) - e < N → (∀ i, i < A.N → V1.1 4 (adH Mr A i + 3) = Vp.1 4 (adH Mr A i + 3)) → (∀ i, e ≤ i → i < nrK Mr (A.K k) (A.n k) → V1.1 4 (faH Mr A k + i) = Vp.1 4 (faH Mr A k + i)) → ∃ z X' V', lp (b44_Memory_forwardFields (Int32.ofNat fr) (Int32.ofNat (nrK Mr (A.K k) (A.n k)))) N (Int32.ofNat e, X) = some (z, X') ∧ RV X0 T0 X' T C n V' ∧ (∀ a, a ≠ 4 → V'.1 a = V1.1 a) ∧ (∀ i, e ≤ i → i < nrK Mr (A.K k) (A.n k) → V'.1 4 (faH Mr A k + i) = fwv Vp (Vp.1 4 (faH Mr A k + i))) ∧ ∀ p, ¬ (faH Mr A k + e ≤ p ∧ p < faH Mr A k + nrK Mr (A.K k) (A.n k)) → V'.1 4 p = V1.1 4 p := by
    intro N
    induction N with
    | zero => intro e k X V1 fr _ _ _ _ h1 h2; omega
    | succ N ih =>
      intro e k X V1 fr r hk hf0 hf h1 h2 h3 hv
      have bd := hr.bd hk
      have fi := fa_in Mr A k
      by_cases ee : e = nrK Mr (A.K k) (A.n k)
      · refine ⟨Int32.ofNat e, X, V1, lp_inr ?_, r, fun _ _ => rfl, fun i a b => by omega, fun p _ => rfl⟩
        unfold b44_Memory_forwardFields
        rw [if_pos (by rw [ee]; exact Int32.le_refl _)]
      · have hfr := hf (by omega)
        have c1 : ¬ Int32.ofNat (nrK Mr (A.K k) (A.n k)) ≤ Int32.ofNat e := by rw [o_le _ _ (by omega) (by omega)]; omega
        obtain ⟨v1, v2⟩ := fvx k hk e (by omega)
        have wv : V1.1 4 (fr + e) = Vp.1 4 (faH Mr A k + e) := by rw [hfr]; exact hv e (Nat.le_refl _) (by omega)
        have fw := fwd_eq hr r (Vp := Vp) h3 v2
        obtain ⟨w, w1, w2⟩ := fwr _ v2
        obtain ⟨X1, s1, s2⟩ := setWord_eq r (j := fr + e) (by omega) (by omega) w
        rw [Nat.mod_eq_of_lt w1, ← w2] at s2
        rw [← w2] at s1
        have st : b44_Memory_forwardFields (Int32.ofNat fr) (Int32.ofNat (nrK Mr (A.K k) (A.n k))) (Int32.ofNat e, X) = some (.inl (Int32.ofNat (e + 1), X1)) := by
          unfold b44_Memory_forwardFields
          rw [if_neg c1]
          dsimp only
          rw [o_add, word_eq r (by omega), Option.bind_some, wv, fw, Option.bind_some, s1, Option.bind_some, o_addR]
        have v4 : ∀ p, (mw V1 4 (fr + e) (fwv Vp (Vp.1 4 (faH Mr A k + e)))).1 4 p = if p = fr + e then fwv Vp (Vp.1 4 (faH Mr A k + e)) else V1.1 4 p := fun p => by rw [mw1]; simp
        obtain ⟨z, X', V', f1, f2', f3, f4, f5⟩ := ih (e + 1) k X1 _ fr s2 hk hf0 hf (by omega) (by omega) (fun i hi => by
          rw [v4, if_neg (fun z => by
            have wzi := wz4 Mr (A.K i) (A.n i)
            have := apart (Mr := Mr) (A := A) (j := i) (k := k) (p := adH Mr A i + 3) (by omega) (by omega) (by omega) (by omega)
            subst this
            omega)]
          exact h3 i hi) (fun i a b => by rw [v4, if_neg (by omega)]; exact hv i (by omega) b)
        rw [lp_inl st]
        refine ⟨z, X', V', f1, f2', fun a ha => by rw [f3 a ha, mwr _ _ _ ha], fun i a b => ?_, fun p hp => ?_⟩
        · by_cases ei : i = e
          · subst ei
            rw [f5 _ (by omega), v4, if_pos (by omega)]
          · exact f4 i (by omega) b
        · rw [f5 p (by omega), v4, if_neg (by omega)]
  have outer : ∀ N i X V', RV X0 T0 X T C n V' → i ≤ c → c - i < N → (∀ a, a ≠ 4 → V'.1 a = V.1 a) → (∀ j, j < i → ∀ e, e < nrK Mr (A.K (q j)) (A.n (q j)) → V'.1 4 (faH Mr A (q j) + e) = fwv Vp (Vp.1 4 (faH Mr A (q j) + e))) → (∀ p, (∀ j, j < i → ∀ e, e < nrK Mr (A.K (q j)) (A.n (q j)) → p ≠ faH Mr A (q j) + e) → V'.1 4 p = Vp.1 4 p) → ∃ z X' V', lp (b2_Memory_forwardFields) N (Int32.ofNat i, X) = some (z, X') ∧ RV X0 T0 X' T C n V' ∧ (∀ a, a ≠ 4 → V'.1 a = V.1 a) ∧ (∀ j, j < c → ∀ e, e < nrK Mr (A.K (q j)) (A.n (q j)) → V'.1 4 (faH Mr A (q j) + e) = fwv Vp (Vp.1 4 (faH Mr A (q j) + e))) ∧ ∀ p, (∀ j, j < c → ∀ e, e < nrK Mr (A.K (q j)) (A.n (q j)) → p ≠ faH Mr A (q j) + e) → V'.1 4 p = Vp.1 4 p := by
    intro N
    induction N with
    | zero => intro i X V' _ h1 h2; omega
    | succ N ih =>
      intro i X V' r h1 h2 ho g1 g2
      have e6 : X.1 41 6 = Int32.ofNat c := by rw [r.rf (a := 41) (by unfold Fx; omega), ho _ (by omega), h41]; exact f2.m6
      by_cases e : i = c
      · subst e
        refine ⟨Int32.ofNat i, X, V', lp_inr ?_, r, ho, g1, g2⟩
        unfold b2_Memory_forwardFields
        dsimp only
        rw [e6, if_pos (Int32.le_refl _)]
      · obtain ⟨t1, t2⟩ := f2.td i (by omega)
        have cl : (Int32.ofNat i).toNatClampNeg = i := o_cl _ (by omega)
        have l5 : Lv n 5 := Or.inl (by omega)
        have v5 : X.1 (C 5) i = Int32.ofNat (adH Mr A (q i)) := by rw [r.rd l5, ho 5 (by omega), h5]; exact t2
        have bd := hr.bd t1
        have wz := wz4 Mr (A.K (q i)) (A.n (q i))
        have fi := fa_in Mr A (q i)
        have ob := hr.ob (q i) t1
        have head : ∀ p, adH Mr A (q i) ≤ p → p < faH Mr A (q i) → p < adH Mr A (q i) + wzK Mr (A.K (q i)) (A.n (q i)) → V'.1 4 p = Vp.1 4 p := by
          intro p a b d
          refine g2 p (fun j hj e' he' z => ?_)
          have tj := (f2.td j (by omega)).1
          have fj := fa_in Mr A (q j)
          have := apart (Mr := Mr) (A := A) (j := q j) (k := q i) (p := p) (by omega) (by omega) a d
          rw [this] at z
          omega
        obtain ⟨fr, ga, gb, gc, gd, _⟩ := obj_ok (A := A) hkc r ob.ok bd.2.1 (by rw [head _ (Nat.le_refl _) (by omega) (by omega), f2.wd (k := q i) (Nat.le_refl _) (by omega) (by omega)]; exact ob.h0) (fun h => by
          have := fi.2.2 h
          rw [head _ (by omega) (by omega) (by omega), f2.wd (k := q i) (by omega) (by omega) (by omega)]
          exact ob.h4 h) (by rw [ho 1045 (by omega), ho 1046 (by omega), h45.1, h45.2, f2.ot 1045 (by omega) (by omega) (by omega), f2.ot 1046 (by omega) (by omega) (by omega)]; exact hr.fld)
        obtain ⟨z, X1, V1, f1, f2', f3, f4, f5⟩ := inner 10000 0 (q i) X V' fr r t1 ga gc (by omega) (by omega) (fun w hw => by
          refine g2 _ (fun j hj e' he' z => ?_)
          have tj := (f2.td j (by omega)).1
          have fj := fa_in Mr A (q j)
          have wzw := wz4 Mr (A.K w) (A.n w)
          have := apart (Mr := Mr) (A := A) (j := q j) (k := w) (p := adH Mr A w + 3) (by omega) (by omega) (by omega) (by omega)
          rw [this] at z fj
          omega) (fun w _ hw => by
          refine g2 _ (fun j hj e' he' z => ?_)
          have fj := fa_in Mr A (q j)
          have := apart (Mr := Mr) (A := A) (j := q j) (k := q i) (p := faH Mr A (q i) + w) (by omega) (by omega) (by omega) (by omega)
          have := qi j i (by omega) (by omega) this
          omega)
        have f1' : lp (b44_Memory_forwardFields (Int32.ofNat fr) (Int32.ofNat (nrK Mr (A.K (q i)) (A.n (q i))))) 10000 ((0 : Int32), X) = some (z, X1) := f1
        have n1 : ¬ Int32.ofNat c ≤ Int32.ofNat i := by rw [o_le _ _ (by omega) (by omega)]; omega
        have n2 : ¬ Int32.ofNat 1001 ≤ Int32.ofNat i := by rw [o_le _ _ (by omega) (by omega)]; omega
        have ix : ixo (Int32.ofNat i) 1001 := ixl (by omega) (by omega)
        have st : b2_Memory_forwardFields (Int32.ofNat i, X) = some (.inl (Int32.ofNat (i + 1), X1)) := by
          unfold b2_Memory_forwardFields
          dsimp only
          rw [e6]
          refine (if_neg n1).trans ((Ez r.m2.1).trans ((Ez r.m2.2).trans ((if_neg n2).trans ((Ez r.m2.1).trans ((Ez r.m2.2).trans ((if_pos ix).trans ?_))))))
          simp only [cl]
          rw [v5, gb, Option.bind_some]
          refine (Ez r.m2.1).trans ((Ez r.m2.2).trans ((if_pos ix).trans ?_))
          rw [v5, gd, Option.bind_some, f1', Option.bind_some, o_addR]
        rw [lp_inl st]
        refine ih (i + 1) X1 V1 f2' (by omega) (by omega) (fun a ha => by rw [f3 a ha]; exact ho a ha) (fun j hj e' he' => ?_) (fun p hp => ?_)
        · by_cases ej : j = i
          · subst ej; exact f4 e' (by omega) he'
          · rw [f5 _ (fun w => by
              have fj := fa_in Mr A (q j)
              have := apart (Mr := Mr) (A := A) (j := q j) (k := q i) (p := faH Mr A (q j) + e') (by omega) (by omega) (by omega) (by omega)
              exact ej (qi j i (by omega) (by omega) this))]
            exact g1 j (by omega) e' he'
        · rw [f5 p (fun w => hp i (by omega) (p - faH Mr A (q i)) (by omega) (by omega))]
          exact g2 p (fun j hj => hp j (by omega))
  obtain ⟨z, X', V', e1, e2, e3, e4, e5⟩ := outer 10000 0 X V r (by omega) (by omega) (fun _ _ => rfl) (fun j hj => by omega) (fun p _ => by rw [h4])
  refine ⟨X', V', ?_, e2, e3, e4, e5⟩
  unfold f_Memory_forwardFields
  have e1' : lp (b2_Memory_forwardFields) 10000 ((0 : Int32), X) = some (z, X') := e1
  rw [e1']
  rfl
