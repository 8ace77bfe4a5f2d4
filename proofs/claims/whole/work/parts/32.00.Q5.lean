/-! Q5 -/
set_option maxRecDepth 20000 in
set_option maxHeartbeats 4000000 in
/-- a thread starts -/
theorem startV {X0 : XS} {T0 : Nat → Nat} {X : XS} {T C : Nat → Nat} {n : Nat} {V : MS} (r : RV X0 T0 X T C n V) {nb : Nat} (hn : nb < n) (y z u v : Int32) (e40 : V.1 1040 2 = Int32.ofNat nb) : ∃ X' V', ((f_Strand_start (C (600 + 16 * nb)) y z u v X).bind fun x16 => (lt (xw x16 40 2 ((x16.1 40 2) + 1)) fun X17 => some X17)) = some X' ∧ RV X0 T0 X' T C n V' ∧ (∀ g, ¬ isS nb g → g ≠ 1040 → V'.1 g = V.1 g) ∧ (∀ f, V'.1 1040 f = if f = 2 then Int32.ofNat (nb + 1) else V.1 1040 f) ∧ V'.1 (600 + 16 * nb) 0 = 0 ∧ V'.1 (600 + 16 * nb) 1 = 0 ∧ V'.1 (600 + 16 * nb) 2 = 1 ∧ V'.1 (600 + 16 * nb) 3 = y ∧ V'.1 (600 + 16 * nb) 4 = z ∧ V'.1 (600 + 16 * nb) 7 = 12 ∧ V'.1 (600 + 16 * nb) 8 = 0 ∧ (∀ j, j < 22 → V'.1 (605 + 16 * nb) j = if j = 0 then u else 0) ∧ (∀ j, j < 22 → V'.1 (606 + 16 * nb) j = if j = 0 then v else 0) := by
  have n6 := r.no.1
  have l0 : Lv n (600 + 16 * nb) := Lv_s (f := 0) hn (by omega)
  have l5 : Lv n (605 + 16 * nb) := Lv_s (f := 5) hn (by omega)
  have l6 : Lv n (606 + 16 * nb) := Lv_s (f := 6) hn (by omega)
  have st := start_eq (r.sc hn) y z u v
  unfold xe at st
  have w1 := ((r.w l0 0 0).w l0 1 0).w l0 2 0
  have w2 := ((((((((w1.fill l5 (22 * 0) (22 * 0 + 22) 0).fill l6 (22 * 0) (22 * 0 + 22) 0).w l0 3 y).w l0 4 z).w l0 7 (Int32.ofNat (22 * 0 + 12))).w l0 8 0).w l0 2 (Int32.ofNat (0 + 1))).w l5 0 u).w l6 0 v
  generalize hX2 : xw (xw (xw (xw (xw (xw (xw (xf (xf (xw (xw (xw X (C (600 + 16 * nb)) 0 0) (C (600 + 16 * nb)) 1 0) (C (600 + 16 * nb)) 2 0) (C (605 + 16 * nb)) (22 * 0) (22 * 0 + 22) 0) (C (606 + 16 * nb)) (22 * 0) (22 * 0 + 22) 0) (C (600 + 16 * nb)) 3 y) (C (600 + 16 * nb)) 4 z) (C (600 + 16 * nb)) 7 (Int32.ofNat (22 * 0 + 12))) (C (600 + 16 * nb)) 8 0) (C (600 + 16 * nb)) 2 (Int32.ofNat (0 + 1))) (C (605 + 16 * nb)) 0 u) (C (606 + 16 * nb)) 0 v = X2 at w2 st
  generalize hV2 : mw (mw (mw (mw (mw (mw (mw (mf (mf (mw (mw (mw V (600 + 16 * nb) 0 0) (600 + 16 * nb) 1 0) (600 + 16 * nb) 2 0) (605 + 16 * nb) (22 * 0) (22 * 0 + 22) 0) (606 + 16 * nb) (22 * 0) (22 * 0 + 22) 0) (600 + 16 * nb) 3 y) (600 + 16 * nb) 4 z) (600 + 16 * nb) 7 (Int32.ofNat (22 * 0 + 12))) (600 + 16 * nb) 8 0) (600 + 16 * nb) 2 (Int32.ofNat (0 + 1))) (605 + 16 * nb) 0 u) (606 + 16 * nb) 0 v = V2 at w2
  have o : ∀ g, g ≠ 600 + 16 * nb → g ≠ 605 + 16 * nb → g ≠ 606 + 16 * nb → V2.1 g = V.1 g := fun g h0 h5 h6 => by
    rw [← hV2, mwr _ _ _ h6, mwr _ _ _ h5, mwr _ _ _ h0, mwr _ _ _ h0, mwr _ _ _ h0, mwr _ _ _ h0, mwr _ _ _ h0, mfr _ _ _ _ h6, mfr _ _ _ _ h5, mwr _ _ _ h0, mwr _ _ _ h0, mwr _ _ _ h0]
  have s0 : ∀ f, V2.1 (600 + 16 * nb) f = if f = 2 then 1 else if f = 8 then 0 else if f = 7 then 12 else if f = 4 then z else if f = 3 then y else if f = 1 then 0 else if f = 0 then 0 else V.1 (600 + 16 * nb) f := fun f => by
    rw [← hV2, mwr _ _ _ (by omega), mwr _ _ _ (by omega), mw1, mw1, mw1, mw1, mw1, mfr _ _ _ _ (by omega), mfr _ _ _ _ (by omega), mw1, mw1, mw1]
    simp only [true_and]
    by_cases e2 : f = 2
    · rw [if_pos e2, if_pos e2]; rfl
    · rw [if_neg e2, if_neg e2, if_neg e2]; rfl
  have s5 : ∀ j, j < 22 → V2.1 (605 + 16 * nb) j = if j = 0 then u else 0 := fun j hj => by
    rw [← hV2, mwr _ _ _ (by omega), mw1, mwr _ _ _ (by omega), mwr _ _ _ (by omega), mwr _ _ _ (by omega), mwr _ _ _ (by omega), mwr _ _ _ (by omega), mfr _ _ _ _ (by omega), mf1]
    simp only [true_and]
    rw [if_pos (show 22 * 0 ≤ j ∧ j < 22 * 0 + 22 by omega)]
  have s6 : ∀ j, j < 22 → V2.1 (606 + 16 * nb) j = if j = 0 then v else 0 := fun j hj => by
    rw [← hV2, mw1, mwr _ _ _ (by omega), mwr _ _ _ (by omega), mwr _ _ _ (by omega), mwr _ _ _ (by omega), mwr _ _ _ (by omega), mwr _ _ _ (by omega), mf1]
    simp only [true_and]
    rw [if_pos (show 22 * 0 ≤ j ∧ j < 22 * 0 + 22 by omega)]
  have e2 : X2.1 40 2 = Int32.ofNat nb := by
    rw [w2.rf (a := 40) (by unfold Fx; omega), o (1000 + 40) (by omega) (by omega) (by omega)]
    exact e40
  have w3 := w2.f (a := 40) (by unfold Fx; omega) 2 (Int32.ofNat (nb + 1))
  refine ⟨_, _, ?_, w3, ?_, ?_, ?_, ?_, ?_, ?_, ?_, ?_, ?_, ?_, ?_⟩
  · rw [st, Option.bind_some]
    dsimp only [lt]
    rw [e2, o_addR]
  · intro g h1 h2
    unfold isS at h1
    rw [mwr _ _ _ h2]
    exact o g (by omega) (by omega) (by omega)
  · intro f
    rw [mw1, o 1040 (by omega) (by omega) (by omega)]
    simp
  · rw [mwr _ _ _ (by omega), s0]; rfl
  · rw [mwr _ _ _ (by omega), s0]; rfl
  · rw [mwr _ _ _ (by omega), s0]; rfl
  · rw [mwr _ _ _ (by omega), s0]; rfl
  · rw [mwr _ _ _ (by omega), s0]; rfl
  · rw [mwr _ _ _ (by omega), s0]; rfl
  · rw [mwr _ _ _ (by omega), s0]; rfl
  · intro j hj; rw [mwr _ _ _ (by omega)]; exact s5 j hj
  · intro j hj; rw [mwr _ _ _ (by omega)]; exact s6 j hj
set_option maxRecDepth 20000 in
set_option maxHeartbeats 4000000 in
theorem begStr {Mr : MS} {kc rc main : Nat} (gp : GP Mr kc rc main) {X0 : XS} {T0 : Nat → Nat} (ht0 : TG T0) (him : IM Mr rc main X0 T0) {X : XS} {T C : Nat → Nat} {n : Nat} {V : MS} (r : RV X0 T0 X T C n V) {nb rr : Nat} (hnb : nb < 6) (hn : nb ≤ n) (e40 : V.1 1040 2 = Int32.ofNat nb) (hr : rr < 24) (hre : fm Mr 75 rr) (u v : Int32) : ∃ X' T' C' n' V', f_Engine_beginStrand (Int32.ofNat (rn Mr rr)) u v X = some X' ∧ RV X0 T0 X' T' C' n' V' ∧ nb < n' ∧ (∀ g, Lv n g → C' g = C g) ∧ (∀ g, ¬ isS nb g → g ≠ 1040 → V'.1 g = V.1 g) ∧ (∀ f, V'.1 1040 f = if f = 2 then Int32.ofNat (nb + 1) else V.1 1040 f) ∧ V'.1 (600 + 16 * nb) 0 = 0 ∧ V'.1 (600 + 16 * nb) 1 = 0 ∧ V'.1 (600 + 16 * nb) 2 = 1 ∧ V'.1 (600 + 16 * nb) 3 = Int32.ofNat (rn Mr rr) ∧ V'.1 (600 + 16 * nb) 4 = Int32.ofNat (caN Mr rr) ∧ V'.1 (600 + 16 * nb) 7 = 12 ∧ V'.1 (600 + 16 * nb) 8 = 0 ∧ (∀ j, j < 22 → V'.1 (605 + 16 * nb) j = if j = 0 then u else 0) ∧ (∀ j, j < 22 → V'.1 (606 + 16 * nb) j = if j = 0 then v else 0) := by
  have e2 : X.1 40 2 = Int32.ofNat nb := by rw [r.rf (a := 40) (by unfold Fx; omega)]; exact e40
  have rg : 0 ≤ Int32.ofNat nb ∧ Int32.ofNat nb ≤ 5 := by
    rw [o_0le _ (by omega), o_leR _ _ (by omega) (by decide)]
    exact ⟨trivial, by show nb ≤ 5; omega⟩
  have cl : (Int32.ofNat nb).toNatClampNeg = nb := o_cl _ (by omega)
  unfold f_Engine_beginStrand
  rw [e2, if_pos rg]
  simp only [cl]
  by_cases c : nb < n
  · have st := r.st nb c
    have im := r.im ht0 him
    obtain ⟨X', V', s1, s2⟩ := startV r c (Int32.ofNat (rn Mr rr)) (Int32.ofNat (caN Mr rr)) u v e40
    refine ⟨X', T, C, n, V', ?_, s2.1, c, fun _ _ => rfl, s2.2⟩
    refine (Ez st.r).trans ((Ez st.r).trans ?_)
    rw [codeAt_51 im gp hr hre, Option.bind_some, if_pos st.x]
    exact s1
  · have en : nb = n := by omega
    subst en
    obtain ⟨V1, r1, v1⟩ := r.new (by omega)
    have none : X.2.1 50 nb = none := r.no.2 nb (Nat.le_refl _) (by omega)
    have x0 : xT (xn X 14 0) (xA X) = some (14, 0) := by rw [xTn, if_pos rfl]
    have x1 : xT (newS X) (xA X) = some (14, 0) := (newS_t X).1
    have A130 := xA130 X
    have e40' : (xp (newS X) 50 nb (some (xA X))).1 40 2 = Int32.ofNat nb := by
      rw [xp1, (newS_lt X (show 40 < xA X by omega)).1]
      exact e2
    have st := r1.st nb (by omega)
    have im := r1.im ht0 him
    have i0 := (clS_i C (xA X) nb).1
    obtain ⟨X', V', s1, s2⟩ := startV r1 (show nb < nb + 1 by omega) (Int32.ofNat (rn Mr rr)) (Int32.ofNat (caN Mr rr)) u v (by rw [v1 1040 (by unfold isS; omega)]; exact e40)
    refine ⟨X', _, _, _, V', ?_, s2.1, by omega, ?_, ?_, ?_, s2.2.2.2⟩
    · rw [none]
      show (if xT (xn X 14 0) (xA X) = some (14, 0) then _ else _) = _
      rw [if_pos x0, newS_eq, Option.bind_some, if_pos x1]
      show (if ixo ((xp (newS X) 50 nb (some (xA X))).1 40 2) 6 then _ else _) = _
      rw [if_pos (by rw [e40']; exact ixl hnb (by omega)), e40', cl]
      refine (Ez st.r).trans ?_
      rw [codeAt_51 im gp hr hre, Option.bind_some, if_pos st.x]
      exact s1
    · intro g hg
      exact clS_o (by unfold Lv Fx at hg; unfold isS; omega)
    · intro g h1 h2
      rw [s2.2.1 g h1 h2, v1 g h1]
    · intro f
      rw [s2.2.2.1 f, v1 1040 (by unfold isS; omega)]
