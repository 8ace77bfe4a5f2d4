/-! R8 -/
set_option maxRecDepth 20000 in
set_option maxHeartbeats 4000000 in
theorem fitc {w : Nat} (h : w < 65536) : fits .char (.int (Int32.ofNat w)) = true := by
  have h1 : (0 : Int32) ≤ Int32.ofNat w := by rw [o_0le _ (by omega)]; trivial
  have h2 : Int32.ofNat w ≤ 65535 := by rw [o_leR _ _ (by omega) (by decide)]; show w ≤ 65535; omega
  show (decide ((0 : Int32) ≤ Int32.ofNat w) && decide (Int32.ofNat w ≤ 65535)) = true
  rw [decide_eq_true h1, decide_eq_true h2]
  rfl
set_option maxRecDepth 20000 in
set_option maxHeartbeats 4000000 in
theorem slide_ok {Mr : MS} {kc : Nat} {A : HG} (hkc : kc ≤ 10) (hN : adH Mr A A.N ≤ 4001) (ok : ∀ k, k < A.N → KOk Mr kc (A.K k) (A.n k)) (S : Nat → Bool) {X0 : XS} {T0 : Nat → Nat} {X : XS} {T C : Nat → Nat} {n : Nat} {V : MS} (r : RV X0 T0 X T C n V) (h0 : ∀ k, k < A.N → V.1 4 (adH Mr A k) = Int32.ofNat (kcode Mr (A.K k))) (h4 : ∀ k, k < A.N → 10 ≤ A.K k → V.1 4 (adH Mr A k + 4) = Int32.ofNat (A.n k)) (fld : ∀ c, c < kc → fm Mr 77 c → V.1 1045 (kn Mr c) = Int32.ofNat (aI Mr c) ∧ V.1 1046 (kn Mr c) = Int32.ofNat (aF Mr c)) (h3 : ∀ k, k < A.N → V.1 4 (adH Mr A k + 3) = if S k = true then Int32.ofNat (naH Mr A S k) else 0) (h7 : V.1 1041 7 = Int32.ofNat (adH Mr A A.N)) (wd : ∀ p, p < 4001 → ∃ w, w < 65536 ∧ V.1 4 p = Int32.ofNat w) : ∃ X' V', f_Memory_slide X = some X' ∧ RV X0 T0 X' T C n V' ∧ (∀ a, a ≠ 4 → a ≠ 1041 → V'.1 a = V.1 a) ∧ (∀ f, V'.1 1041 f = if f = 0 then V.1 1041 0 + 1 else if f = 7 then Int32.ofNat (naH Mr A S A.N) else V.1 1041 f) ∧ (∀ k, k < A.N → S k = true → ∀ i, i < wzK Mr (A.K k) (A.n k) → V'.1 4 (naH Mr A S k + i) = if i = 3 then 0 else V.1 4 (adH Mr A k + i)) ∧ ∀ p, p < 4001 → ∃ w, w < 65536 ∧ V'.1 4 p = Int32.ofNat w := by
  have l4 : Lv n 4 := Or.inl (by omega)
  have bdk : ∀ k, k < A.N → 1 ≤ adH Mr A k ∧ adH Mr A k + wzK Mr (A.K k) (A.n k) ≤ 4001 := fun k hk => by
    have a := adH_ge Mr A k
    have b := adH_mono Mr A A.N hk
    omega
  have nmono : ∀ k j, j < k → S j = true → naH Mr A S j + wzK Mr (A.K j) (A.n j) ≤ naH Mr A S k := by
    intro k
    induction k with
    | zero => intro j h; omega
    | succ k ih =>
      intro j h hs
      show _ ≤ naH Mr A S k + (if S k = true then wzK Mr (A.K k) (A.n k) else 0)
      by_cases e : j = k
      · subst e; rw [if_pos hs]; omega
      · have := ih j (by omega) hs; omega
  have key : ∀ N k X V', RV X0 T0 X T C n V' → k ≤ A.N → A.N - k < N → (∀ a, a ≠ 4 → V'.1 a = V.1 a) → (∀ p, adH Mr A k ≤ p → V'.1 4 p = V.1 4 p) → (∀ j, j < k → S j = true → ∀ i, i < wzK Mr (A.K j) (A.n j) → V'.1 4 (naH Mr A S j + i) = if i = 3 then 0 else V.1 4 (adH Mr A j + i)) → (∀ p, p < 4001 → ∃ w, w < 65536 ∧ V'.1 4 p = Int32.ofNat w) → ∃ z X' V', lp (b6_Memory_slide) N (Int32.ofNat (naH Mr A S k), Int32.ofNat (adH Mr A k), X) = some (Int32.ofNat (naH Mr A S A.N), z, X') ∧ RV X0 T0 X' T C n V' ∧ (∀ a, a ≠ 4 → V'.1 a = V.1 a) ∧ (∀ j, j < A.N → S j = true → ∀ i, i < wzK Mr (A.K j) (A.n j) → V'.1 4 (naH Mr A S j + i) = if i = 3 then 0 else V.1 4 (adH Mr A j + i)) ∧ ∀ p, p < 4001 → ∃ w, w < 65536 ∧ V'.1 4 p = Int32.ofNat w := by
    intro N
    induction N with
    | zero => intro k X V' _ h1 h2; omega
    | succ N ih =>
      intro k X V' r h1 h2 ho hp hm hw
      have e7 : X.1 41 7 = Int32.ofNat (adH Mr A A.N) := by rw [r.rf (a := 41) (by unfold Fx; omega), ho _ (by omega)]; exact h7
      by_cases e : k = A.N
      · subst e
        refine ⟨Int32.ofNat (adH Mr A A.N), X, V', lp_inr ?_, r, ho, hm, hw⟩
        unfold b6_Memory_slide
        dsimp only
        rw [e7, if_pos (Int32.le_refl _)]
      · have hk : k < A.N := by omega
        obtain ⟨b1, b2⟩ := bdk k hk
        have wz := wz4 Mr (A.K k) (A.n k)
        have mono := adH_mono Mr A A.N hk
        have nl := naH_le Mr A S k
        have c1 : ¬ Int32.ofNat (adH Mr A A.N) ≤ Int32.ofNat (adH Mr A k) := by rw [o_le _ _ (by omega) (by omega)]; omega
        have hd := fa_in Mr A k
        obtain ⟨fr, _, _, _, _, sz⟩ := obj_ok (A := A) hkc r (ok k hk) b2 (by rw [hp _ (Nat.le_refl _)]; exact h0 k hk) (fun h => by rw [hp _ (by omega)]; exact h4 k hk h) (by rw [ho 1045 (by omega), ho 1046 (by omega)]; exact fld)
        have wk := word_eq r (j := adH Mr A k + 3) (by omega)
        rw [hp _ (by omega), h3 k hk] at wk
        have wk' : f_Memory_word (Int32.ofNat (adH Mr A k + OfNat.ofNat 3)) X = _ := wk
        by_cases cm : S k = true
        · rw [if_pos cm] at wk wk'
          have en : naH Mr A S (k + 1) = naH Mr A S k + wzK Mr (A.K k) (A.n k) := by
            show naH Mr A S k + (if S k = true then wzK Mr (A.K k) (A.n k) else 0) = _
            rw [if_pos cm]
          obtain ⟨X1, s1, s2⟩ := setWord_eq r (j := adH Mr A k + 3) (by omega) (by omega) 0
          have v4 : ∀ p, (mw V' 4 (adH Mr A k + 3) (Int32.ofNat (0 % 65536))).1 4 p = if p = adH Mr A k + 3 then 0 else V'.1 4 p := fun p => by rw [mw1]; simp only [true_and]; rfl
          have w3 := s2.cpy l4 l4 (adH Mr A k) (naH Mr A S k) (wzK Mr (A.K k) (A.n k))
          have rowX : X1.1 (C 4) = (mw V' 4 (adH Mr A k + 3) (Int32.ofNat (0 % 65536))).1 4 := s2.rd l4
          have c5 : ∀ p, (mc (mw V' 4 (adH Mr A k + 3) (Int32.ofNat (0 % 65536))) ((mw V' 4 (adH Mr A k + 3) (Int32.ofNat (0 % 65536))).1 4) 4 (adH Mr A k) (naH Mr A S k) (wzK Mr (A.K k) (A.n k))).1 4 p = if naH Mr A S k ≤ p ∧ p < naH Mr A S k + wzK Mr (A.K k) (A.n k) then (if adH Mr A k + (p - naH Mr A S k) = adH Mr A k + 3 then 0 else V'.1 4 (adH Mr A k + (p - naH Mr A S k))) else (if p = adH Mr A k + 3 then 0 else V'.1 4 p) := fun p => by
            rw [mc1, v4, v4]; simp
          have ft : (List.range (Int32.ofNat (wzK Mr (A.K k) (A.n k))).toNatClampNeg).all (fun i => fits .char (.int (X1.1 (C 4) ((Int32.ofNat (adH Mr A k)).toNatClampNeg + i)))) = true := by
            rw [List.all_eq_true]
            intro i hi
            rw [List.mem_range, o_cl _ (by omega)] at hi
            rw [o_cl _ (by omega), rowX, v4]
            by_cases z : adH Mr A k + i = adH Mr A k + 3
            · rw [if_pos z]; exact fitc (w := 0) (by omega)
            · rw [if_neg z]
              obtain ⟨w, w1, w2⟩ := hw (adH Mr A k + i) (by omega)
              rw [w2]
              exact fitc w1
          have cp : cpo (Int32.ofNat (adH Mr A k)) (Int32.ofNat (naH Mr A S k)) (Int32.ofNat (wzK Mr (A.K k) (A.n k))) 4001 4001 := by rw [o_cpo _ _ _ _ _ (by omega) (by omega) (by omega)]; omega
          have st : b6_Memory_slide (Int32.ofNat (naH Mr A S k), Int32.ofNat (adH Mr A k), X) = some (.inl (Int32.ofNat (naH Mr A S (k + 1)), Int32.ofNat (adH Mr A (k + 1)), xc X1 (X1.1 (C 4)) (C 4) (adH Mr A k) (naH Mr A S k) (wzK Mr (A.K k) (A.n k)))) := by
            unfold b6_Memory_slide
            dsimp only
            have n1 : ¬ Int32.ofNat (naH Mr A S k) < 1 := by rw [o_ltR _ _ (by omega) (by decide)]; show ¬ naH Mr A S k < 1; omega
            have n2 : ¬ Int32.ofNat (adH Mr A k) < Int32.ofNat (naH Mr A S k) := by rw [o_lt _ _ (by omega) (by omega)]; omega
            have n3 : ¬ Int32.ofNat 4001 < Int32.ofNat (adH Mr A k + wzK Mr (A.K k) (A.n k)) := by rw [o_lt _ _ (by omega) (by omega)]; omega
            have s1' : f_Memory_setWord (Int32.ofNat (adH Mr A k + OfNat.ofNat 3)) 0 X = some X1 := s1
            rw [e7, if_neg c1, sz, Option.bind_some, o_addR, wk', Option.bind_some, if_neg n1, if_neg n2]
            refine (Ez r.m1.1).trans ((Ez r.m1.2).trans ?_)
            rw [o_add, if_neg n3, s1', Option.bind_some]
            refine (Ez s2.m1.1).trans ((Ez s2.m1.1).trans ((Ez s2.m1.2).trans ((Ez s2.m1.2).trans ((if_pos cp).trans ((if_pos ft).trans ?_)))))
            rw [max4 wz.1 (by omega), o_add, o_add, o_cl _ (show adH Mr A k < 2147483648 by omega), o_cl _ (show naH Mr A S k < 2147483648 by omega), o_cl _ (show wzK Mr (A.K k) (A.n k) < 2147483648 by omega), en]
            rfl
          rw [lp_inl st]
          refine ih (k + 1) _ _ w3 (by omega) (by omega) ?_ ?_ ?_ ?_
          · intro a ha; rw [mcr _ _ _ _ _ ha, mwr _ _ _ ha]; exact ho a ha
          · intro p hp'
            have hp2 : adH Mr A k + wzK Mr (A.K k) (A.n k) ≤ p := hp'
            rw [c5, if_neg (by omega), if_neg (by omega)]
            exact hp p (by omega)
          · intro j hj hs i hi
            by_cases ej : j = k
            · subst ej
              rw [c5, if_pos (by omega), Nat.add_sub_cancel_left]
              by_cases ei : i = 3
              · rw [if_pos (by omega), if_pos ei]
              · rw [if_neg (by omega), if_neg ei, hp _ (by omega)]
            · have nm := nmono k j (by omega) hs
              rw [c5, if_neg (by omega), if_neg (by omega)]
              exact hm j (by omega) hs i hi
          · intro p hp'
            rw [c5]
            by_cases z : naH Mr A S k ≤ p ∧ p < naH Mr A S k + wzK Mr (A.K k) (A.n k)
            · rw [if_pos z]
              by_cases y : adH Mr A k + (p - naH Mr A S k) = adH Mr A k + 3
              · rw [if_pos y]; exact ⟨0, by omega, rfl⟩
              · rw [if_neg y]; exact hw _ (by omega)
            · rw [if_neg z]
              by_cases y : p = adH Mr A k + 3
              · rw [if_pos y]; exact ⟨0, by omega, rfl⟩
              · rw [if_neg y]; exact hw _ (by omega)
        · rw [if_neg cm] at wk wk'
          have en : naH Mr A S (k + 1) = naH Mr A S k := by
            show naH Mr A S k + (if S k = true then wzK Mr (A.K k) (A.n k) else 0) = _
            rw [if_neg cm]
            rfl
          have st : b6_Memory_slide (Int32.ofNat (naH Mr A S k), Int32.ofNat (adH Mr A k), X) = some (.inl (Int32.ofNat (naH Mr A S (k + 1)), Int32.ofNat (adH Mr A (k + 1)), X)) := by
            unfold b6_Memory_slide
            dsimp only
            rw [e7, if_neg c1, sz, Option.bind_some, o_addR, wk', Option.bind_some, if_pos (by decide), max4 wz.1 (by omega), o_add, en]
            rfl
          rw [lp_inl st]
          refine ih (k + 1) X V' r (by omega) (by omega) ho (fun p hp' => hp p (by have : adH Mr A k + wzK Mr (A.K k) (A.n k) ≤ p := hp'; omega)) (fun j hj hs => ?_) hw
          by_cases ej : j = k
          · subst ej; exact absurd hs cm
          · exact hm j (by omega) hs
  have N1 : A.N < 10000 := by have := adH_ge Mr A A.N; omega
  obtain ⟨z, X1, V1, e1, e2, e3, e4, e5⟩ := key 10000 0 X V r (by omega) (by omega) (fun _ _ => rfl) (fun _ _ => rfl) (fun j hj => by omega) wd
  have e1' : lp (b6_Memory_slide) 10000 ((1 : Int32), (1 : Int32), X) = some (Int32.ofNat (naH Mr A S A.N), z, X1) := e1
  have w1 := e2.f (a := 41) (by unfold Fx; omega) 7 (Int32.ofNat (naH Mr A S A.N))
  have e0 : (xw X1 41 7 (Int32.ofNat (naH Mr A S A.N))).1 41 0 = V.1 1041 0 := by rw [w1.rf (a := 41) (by unfold Fx; omega), mwi _ _ _ (by omega), e3 _ (by omega)]
  have w2 := w1.f (a := 41) (by unfold Fx; omega) 0 (V.1 1041 0 + 1)
  refine ⟨_, _, ?_, w2, ?_, ?_, ?_, ?_⟩
  · unfold f_Memory_slide
    rw [e1', Option.bind_some]
    dsimp only [lt]
    rw [e0]
  · intro a h1 h2; rw [mwr _ _ _ h2, mwr _ _ _ h2]; exact e3 a h1
  · intro f
    rw [mw1, mw1, e3 _ (by omega)]
    simp
  · intro k hk hs i hi
    rw [mwr _ _ _ (by omega), mwr _ _ _ (by omega)]
    exact e4 k hk hs i hi
  · intro p hp
    rw [mwr _ _ _ (by omega), mwr _ _ _ (by omega)]
    exact e5 p hp
