/-! Q6 -/
set_option maxRecDepth 20000 in
set_option maxHeartbeats 4000000 in
theorem begThr {M : MS} {nb r : Nat} (hnb : nb < 6) (e61 : M.1 60 61 = Int32.ofNat nb) (y : Int32) : ∃ M', f_M_beginThread (Int32.ofNat r) y M = some M' ∧ (∀ a, a ≠ 60 → ¬ (109 ≤ a ∧ a ≤ 116) → M'.1 a = M.1 a) ∧ (∀ f, M'.1 60 f = if f = 61 then Int32.ofNat (nb + 1) else M.1 60 f) ∧ (∀ a q, 109 ≤ a → a ≤ 111 → q ≠ nb → M'.1 a q = M.1 a q) ∧ M'.1 109 nb = 1 ∧ M'.1 110 nb = 0 ∧ M'.1 111 nb = 0 ∧ (∀ a q, 112 ≤ a → a ≤ 114 → q ≠ 20 * nb → M'.1 a q = M.1 a q) ∧ M'.1 112 (20 * nb) = Int32.ofNat r ∧ M'.1 113 (20 * nb) = 0 ∧ M'.1 114 (20 * nb) = 0 ∧ (∀ a q, 115 ≤ a → a ≤ 116 → ¬ (440 * nb ≤ q ∧ q < 440 * nb + 22) → M'.1 a q = M.1 a q) ∧ (∀ j, j < 22 → M'.1 115 (440 * nb + j) = if j = 0 ∧ ¬ y ≤ 0 then y else 0) ∧ (∀ j, j < 22 → M'.1 116 (440 * nb + j) = if j = 0 ∧ ¬ y ≤ 0 then 1 else 0) ∧ M'.2 = M.2 := by
  have ix : ixo (M.1 60 61) 6 := by rw [e61]; exact ixl hnb (by omega)
  have cl : (M.1 60 61).toNatClampNeg = nb := by rw [e61]; exact o_cl _ (by omega)
  have a1 : (mw M 109 nb 0).1 60 61 = M.1 60 61 := by rw [mwr _ _ _ (by omega)]
  have a2 : (mw (mw M 109 nb 0) 110 nb 0).1 60 61 = M.1 60 61 := by rw [mwr _ _ _ (by omega), mwr _ _ _ (by omega)]
  have a3 : (mw (mw (mw M 109 nb 0) 110 nb 0) 111 nb 0).1 60 61 = M.1 60 61 := by rw [mwr _ _ _ (by omega), mwr _ _ _ (by omega), mwr _ _ _ (by omega)]
  have bf := beginFrame_eq (M := mw (mw (mw M 109 nb 0) 110 nb 0) 111 nb 0) (t := nb) (D := 0) hnb (by omega) (by rw [mwr _ _ _ (by omega), mwr _ _ _ (by omega), mw1, if_pos ⟨rfl, rfl⟩]; rfl) (Int32.ofNat r)
  generalize hB : bfM (mw (mw (mw M 109 nb 0) 110 nb 0) 111 nb 0) nb 0 (Int32.ofNat r) = B at bf
  unfold bfM clM at hB
  have b0 : ∀ a, ¬ (109 ≤ a ∧ a ≤ 116) → B.1 a = M.1 a := fun a h => by
    rw [← hB, mfr _ _ _ _ (by omega), mfr _ _ _ _ (by omega), mwr _ _ _ (by omega), mwr _ _ _ (by omega), mwr _ _ _ (by omega), mwr _ _ _ (by omega), mwr _ _ _ (by omega), mwr _ _ _ (by omega), mwr _ _ _ (by omega)]
  have b9 : ∀ q, B.1 109 q = if q = nb then 1 else M.1 109 q := fun q => by
    rw [← hB, mfr _ _ _ _ (by omega), mfr _ _ _ _ (by omega), mwr _ _ _ (by omega), mwr _ _ _ (by omega), mwr _ _ _ (by omega), mw1, mwr _ _ _ (by omega), mwr _ _ _ (by omega), mw1]
    simp only [true_and]
    by_cases e : q = nb
    · rw [if_pos e, if_pos e]; rfl
    · rw [if_neg e, if_neg e, if_neg e]
  have b10 : ∀ q, B.1 110 q = if q = nb then 0 else M.1 110 q := fun q => by
    rw [← hB, mfr _ _ _ _ (by omega), mfr _ _ _ _ (by omega), mwr _ _ _ (by omega), mwr _ _ _ (by omega), mwr _ _ _ (by omega), mwr _ _ _ (by omega), mwr _ _ _ (by omega), mw1, mwr _ _ _ (by omega)]
    simp
  have b11 : ∀ q, B.1 111 q = if q = nb then 0 else M.1 111 q := fun q => by
    rw [← hB, mfr _ _ _ _ (by omega), mfr _ _ _ _ (by omega), mwr _ _ _ (by omega), mwr _ _ _ (by omega), mwr _ _ _ (by omega), mwr _ _ _ (by omega), mw1, mwr _ _ _ (by omega), mwr _ _ _ (by omega)]
    simp
  have b12 : ∀ q, B.1 112 q = if q = 20 * nb then Int32.ofNat r else M.1 112 q := fun q => by
    rw [← hB, mfr _ _ _ _ (by omega), mfr _ _ _ _ (by omega), mwr _ _ _ (by omega), mwr _ _ _ (by omega), mw1, mwr _ _ _ (by omega), mwr _ _ _ (by omega), mwr _ _ _ (by omega), mwr _ _ _ (by omega)]
    simp
  have b13 : ∀ q, B.1 113 q = if q = 20 * nb then 0 else M.1 113 q := fun q => by
    rw [← hB, mfr _ _ _ _ (by omega), mfr _ _ _ _ (by omega), mwr _ _ _ (by omega), mw1, mwr _ _ _ (by omega), mwr _ _ _ (by omega), mwr _ _ _ (by omega), mwr _ _ _ (by omega), mwr _ _ _ (by omega)]
    simp
  have b14 : ∀ q, B.1 114 q = if q = 20 * nb then 0 else M.1 114 q := fun q => by
    rw [← hB, mfr _ _ _ _ (by omega), mfr _ _ _ _ (by omega), mw1, mwr _ _ _ (by omega), mwr _ _ _ (by omega), mwr _ _ _ (by omega), mwr _ _ _ (by omega), mwr _ _ _ (by omega), mwr _ _ _ (by omega)]
    simp
  have b15 : ∀ q, B.1 115 q = if 440 * nb ≤ q ∧ q < 440 * nb + 22 then 0 else M.1 115 q := fun q => by
    rw [← hB, mfr _ _ _ _ (by omega), mf1, mwr _ _ _ (by omega), mwr _ _ _ (by omega), mwr _ _ _ (by omega), mwr _ _ _ (by omega), mwr _ _ _ (by omega), mwr _ _ _ (by omega), mwr _ _ _ (by omega)]
    simp
  have b16 : ∀ q, B.1 116 q = if 440 * nb ≤ q ∧ q < 440 * nb + 22 then 0 else M.1 116 q := fun q => by
    rw [← hB, mf1, mfr _ _ _ _ (by omega), mwr _ _ _ (by omega), mwr _ _ _ (by omega), mwr _ _ _ (by omega), mwr _ _ _ (by omega), mwr _ _ _ (by omega), mwr _ _ _ (by omega), mwr _ _ _ (by omega)]
    simp
  have d2 : B.2 = M.2 := by rw [← hB]; rfl
  have e61B : B.1 60 61 = Int32.ofNat nb := by rw [b0 60 (by omega)]; exact e61
  have run : f_M_beginThread (Int32.ofNat r) y M = (if y ≤ 0 then some (mw B 60 61 (Int32.ofNat (nb + 1))) else some (mw (mw (mw B 115 (440 * nb) y) 116 (440 * nb) 1) 60 61 (Int32.ofNat (nb + 1)))) := by
    unfold f_M_beginThread
    rw [if_pos ix]
    dsimp only [lt]
    rw [cl, a1, if_pos ix, cl, a2, if_pos ix, cl, a3, e61, bf, Option.bind_some]
    dsimp only
    have m1 : 440 * Int32.ofNat nb = Int32.ofNat (440 * nb) := by rw [o_mulL]
    have ix4 : ixo (Int32.ofNat (440 * nb)) 2640 := ixl (by omega) (by omega)
    have cl4 : (Int32.ofNat (440 * nb)).toNatClampNeg = 440 * nb := o_cl _ (by omega)
    rw [e61B, o_addR]
    by_cases c : y ≤ 0
    · rw [if_pos c, if_pos c]
    · rw [if_neg c, if_neg c, m1, if_pos ix4, cl4]
      have a4 : (mw B 115 (440 * nb) y).1 60 61 = Int32.ofNat nb := by rw [mwr _ _ _ (by omega)]; exact e61B
      have a5 : (mw (mw B 115 (440 * nb) y) 116 (440 * nb) 1).1 60 61 = Int32.ofNat nb := by rw [mwr _ _ _ (by omega), mwr _ _ _ (by omega)]; exact e61B
      rw [a4, m1, if_pos ix4, cl4, a5, o_addR]
  rw [run]
  by_cases c : y ≤ 0
  · rw [if_pos c]
    refine ⟨_, rfl, ?_, ?_, ?_, ?_, ?_, ?_, ?_, ?_, ?_, ?_, ?_, ?_, ?_, d2⟩
    · intro a h1 h2; rw [mwr _ _ _ h1]; exact b0 a h2
    · intro f; rw [mw1, b0 60 (by omega)]; simp
    · intro a q h1 h2 h3
      rw [mwr _ _ _ (by omega)]
      rcases (show a = 109 ∨ a = 110 ∨ a = 111 by omega) with e | e | e <;> subst e
      · rw [b9, if_neg h3]
      · rw [b10, if_neg h3]
      · rw [b11, if_neg h3]
    · rw [mwr _ _ _ (by omega), b9, if_pos rfl]
    · rw [mwr _ _ _ (by omega), b10, if_pos rfl]
    · rw [mwr _ _ _ (by omega), b11, if_pos rfl]
    · intro a q h1 h2 h3
      rw [mwr _ _ _ (by omega)]
      rcases (show a = 112 ∨ a = 113 ∨ a = 114 by omega) with e | e | e <;> subst e
      · rw [b12, if_neg h3]
      · rw [b13, if_neg h3]
      · rw [b14, if_neg h3]
    · rw [mwr _ _ _ (by omega), b12, if_pos rfl]
    · rw [mwr _ _ _ (by omega), b13, if_pos rfl]
    · rw [mwr _ _ _ (by omega), b14, if_pos rfl]
    · intro a q h1 h2 h3
      rw [mwr _ _ _ (by omega)]
      rcases (show a = 115 ∨ a = 116 by omega) with e | e <;> subst e
      · rw [b15, if_neg h3]
      · rw [b16, if_neg h3]
    · intro j hj
      rw [mwr _ _ _ (by omega), b15, if_pos (by omega), if_neg (fun z => z.2 c)]
    · intro j hj
      rw [mwr _ _ _ (by omega), b16, if_pos (by omega), if_neg (fun z => z.2 c)]
  · rw [if_neg c]
    refine ⟨_, rfl, ?_, ?_, ?_, ?_, ?_, ?_, ?_, ?_, ?_, ?_, ?_, ?_, ?_, d2⟩
    · intro a h1 h2; rw [mwr _ _ _ h1, mwr _ _ _ (by omega), mwr _ _ _ (by omega)]; exact b0 a h2
    · intro f; rw [mw1, mwr _ _ _ (by omega), mwr _ _ _ (by omega), b0 60 (by omega)]; simp
    · intro a q h1 h2 h3
      rw [mwr _ _ _ (by omega), mwr _ _ _ (by omega), mwr _ _ _ (by omega)]
      rcases (show a = 109 ∨ a = 110 ∨ a = 111 by omega) with e | e | e <;> subst e
      · rw [b9, if_neg h3]
      · rw [b10, if_neg h3]
      · rw [b11, if_neg h3]
    · rw [mwr _ _ _ (by omega), mwr _ _ _ (by omega), mwr _ _ _ (by omega), b9, if_pos rfl]
    · rw [mwr _ _ _ (by omega), mwr _ _ _ (by omega), mwr _ _ _ (by omega), b10, if_pos rfl]
    · rw [mwr _ _ _ (by omega), mwr _ _ _ (by omega), mwr _ _ _ (by omega), b11, if_pos rfl]
    · intro a q h1 h2 h3
      rw [mwr _ _ _ (by omega), mwr _ _ _ (by omega), mwr _ _ _ (by omega)]
      rcases (show a = 112 ∨ a = 113 ∨ a = 114 by omega) with e | e | e <;> subst e
      · rw [b12, if_neg h3]
      · rw [b13, if_neg h3]
      · rw [b14, if_neg h3]
    · rw [mwr _ _ _ (by omega), mwr _ _ _ (by omega), mwr _ _ _ (by omega), b12, if_pos rfl]
    · rw [mwr _ _ _ (by omega), mwr _ _ _ (by omega), mwr _ _ _ (by omega), b13, if_pos rfl]
    · rw [mwr _ _ _ (by omega), mwr _ _ _ (by omega), mwr _ _ _ (by omega), b14, if_pos rfl]
    · intro a q h1 h2 h3
      rw [mwr _ _ _ (by omega)]
      rcases (show a = 115 ∨ a = 116 by omega) with e | e <;> subst e
      · rw [mwr _ _ _ (by omega), mwi _ _ _ (by omega), b15, if_neg h3]
      · rw [mwi _ _ _ (by omega), mwr _ _ _ (by omega), b16, if_neg h3]
    · intro j hj
      rw [mwr _ _ _ (by omega), mwr _ _ _ (by omega), mw1]
      by_cases e : j = 0
      · subst e; rw [if_pos ⟨rfl, rfl⟩, if_pos ⟨rfl, c⟩]
      · rw [if_neg (by omega), b15, if_pos (by omega), if_neg (fun z => e z.1)]
    · intro j hj
      rw [mwr _ _ _ (by omega), mw1]
      by_cases e : j = 0
      · subst e; rw [if_pos ⟨rfl, rfl⟩, if_pos ⟨rfl, c⟩]
      · rw [if_neg (by omega), mwr _ _ _ (by omega), b16, if_pos (by omega), if_neg (fun z => e z.1)]
set_option maxRecDepth 20000 in
set_option maxHeartbeats 4000000 in
/-- the thread that has begun -/
theorem newTh {Mr : MS} {kc rc main : Nat} (gp : GP Mr kc rc main) {A : HG} {V M : MS} {nb r : Nat} (hr24 : r < 24) (hre : fm Mr 75 r) {u v y : Int32} (huv : (v = 0 ∧ u = 0 ∧ y = 0 ∧ tN Mr r = 0) ∨ (v = 1 ∧ RefR Mr A u y ∧ ¬ y ≤ 0 ∧ tN Mr r = 1 ∧ kdX Mr r 0 = 2)) (v0 : V.1 (600 + 16 * nb) 0 = 0) (v1 : V.1 (600 + 16 * nb) 1 = 0) (v2 : V.1 (600 + 16 * nb) 2 = 1) (v3 : V.1 (600 + 16 * nb) 3 = Int32.ofNat (rn Mr r)) (v4 : V.1 (600 + 16 * nb) 4 = Int32.ofNat (caN Mr r)) (v7 : V.1 (600 + 16 * nb) 7 = 12) (v8 : V.1 (600 + 16 * nb) 8 = 0) (v5 : ∀ j, j < 22 → V.1 (605 + 16 * nb) j = if j = 0 then u else 0) (v6 : ∀ j, j < 22 → V.1 (606 + 16 * nb) j = if j = 0 then v else 0) (m9 : M.1 109 nb = 1) (m10 : M.1 110 nb = 0) (m11 : M.1 111 nb = 0) (m12 : M.1 112 (20 * nb) = Int32.ofNat r) (m13 : M.1 113 (20 * nb) = 0) (m14 : M.1 114 (20 * nb) = 0) (m15 : ∀ j, j < 22 → M.1 115 (440 * nb + j) = if j = 0 ∧ ¬ y ≤ 0 then y else 0) (m16 : ∀ j, j < 22 → M.1 116 (440 * nb + j) = if j = 0 ∧ ¬ y ≤ 0 then 1 else 0) : ThR Mr kc rc A V M nb := by
  obtain ⟨S', mt'⟩ := gp.2.1 r hr24 hre
  have mt'' : MT Mr kc rc r S' := ⟨hr24, hre, mt'⟩
  have rrc := gp.2.2.1.2.2.1 r hr24 hre
  obtain ⟨eT, u5, eC, na, hna, e66, eN⟩ := tN_eq gp rrc
  obtain ⟨⟨s, tc, tk, hs1, hs2, hs3, hs4, ⟨na', hna', e66', etk⟩, fo⟩, _⟩ := mt'
  obtain ⟨f1, f2, f3, f4, f5, f6, f7⟩ := fo
  have etk' : tk = tN Mr r := by
    rw [e66] at e66'
    rw [o_eq _ _ (by omega) (by omega)] at e66'
    rw [etk, eN, e66']
  refine Or.inl ⟨0, r, 0, S', mt'', f4, ⟨by omega, m9, v2, m12, m13, by rw [f5]; exact m14, v3, v4, v7, by rw [f5]; exact v8, ?_, ⟨m10, v0⟩, ⟨m11, v1⟩⟩, fun q hq => by omega⟩
  rw [f5]
  refine ⟨by omega, ?_, fun j hj => by omega, ?_⟩
  · intro s hs
    have lq := f6 s
    unfold lin at lq
    rw [show 22 * 0 + s = s by omega]
    by_cases e : s = 0
    · subst e
      rcases huv with ⟨a1, a2, a3, a4⟩ | ⟨a1, a2, a3, a4, a5⟩
      · have yl : y ≤ 0 := by rw [a3]; exact Int32.le_refl _
        rw [if_neg (by omega)] at lq
        refine ⟨Or.inl ⟨?_, ?_, ?_⟩, Or.inl ?_⟩
        · rw [m16 0 (by omega), if_neg (fun z => z.2 yl)]
        · rw [v6 0 (by omega), if_pos rfl, a1]
        · rw [v5 0 (by omega), if_pos rfl, m15 0 (by omega), if_neg (fun z => z.2 yl), a2]
        · rcases lq with z | z <;> exact z
      · have e6 : M.1 116 (440 * nb + 0) = 1 := by rw [m16 0 (by omega), if_pos ⟨rfl, a3⟩]
        rw [if_pos (by omega), a5] at lq
        refine ⟨Or.inr ⟨e6, ?_, ?_⟩, ?_⟩
        · rw [v6 0 (by omega), if_pos rfl, a1]
        · rw [v5 0 (by omega), if_pos rfl, m15 0 (by omega), if_pos ⟨rfl, a3⟩]; exact a2
        · rw [e6]; exact lq
    · have e6 : M.1 116 (440 * nb + s) = 0 := by rw [m16 s (by omega), if_neg (fun z => e z.1)]
      have tk1 : ¬ s < tk := by
        rcases huv with ⟨a1, a2, a3, a4⟩ | ⟨a1, a2, a3, a4, a5⟩ <;> omega
      rw [if_neg tk1] at lq
      refine ⟨Or.inl ⟨e6, ?_, ?_⟩, Or.inl ?_⟩
      · rw [v6 s (by omega), if_neg e]
      · rw [v5 s (by omega), if_neg e, m15 s (by omega), if_neg (fun z => e z.1)]
      · rcases lq with z | z <;> exact z
  · intro j h1 h2
    rw [v6 _ (by omega), if_neg (by omega)]
