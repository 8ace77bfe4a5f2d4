/-! V3 -/
set_option maxRecDepth 20000 in
set_option maxHeartbeats 4000000 in
/-- the image is copied -/
theorem copy_ok {Mr : MS} {rc main : Nat} {X : XS} {T : Nat → Nat} (h : ImO Mr rc main X T) (hl : (imgL Mr rc main).length ≤ 5663) (ht : TG T) (h51 : R51 X T) : ∃ X' T', f_Image_copyFrom_51_30 X = some X' ∧ IM Mr rc main X' T' ∧ TG T' ∧ Mo T T' X X' ∧ Un (fun g => ¬ CopT g) T X X' := by
  obtain ⟨b, L, im, i2, i3, i4, i5⟩ := h
  obtain ⟨X1, T1, b1, L1, q1, q2, q3, q4, q5, q6, q7, q8, q9, q10⟩ := room_51 im ht h51
  obtain ⟨j1, j2, j3, j4, ⟨k, hk, hL⟩, j6⟩ := im
  obtain ⟨b5, L5, r1, r2, r3, r4⟩ := h51
  generalize hN : (imgL Mr rc main).length = N at *
  have e5 : aRl X 51 2 = L5 := by unfold aRl; rw [r1]; dsimp only; rw [r2]
  have hge := xA130 X
  have hb := xT_lt j3
  have t30 : T 30 = 1030 := ht 30 (by omega) (by omega) (by omega) (by omega) (by omega) (by omega) (by omega)
  have t51 : T 51 = 1051 := ht 51 (by omega) (by omega) (by omega) (by omega) (by omega) (by omega) (by omega)
  have tf : ∀ a, 32 ≤ a ∧ a ≤ 34 ∨ 53 ≤ a ∧ a ≤ 55 → T a = 1000 + a := fun a ha => ht a (by omega) (by omega) (by omega) (by omega) (by omega) (by omega) (by omega)
  have u1 : ∀ c, c < xA X → T1 c = T c := q7.2.1
  have p3 : 2 ^ k ≤ 2 ^ 7 := Nat.pow_le_pow_right (by omega) hk
  obtain ⟨k1, hk1, hL1⟩ := q5
  have p4 : 2 ^ k1 ≤ 2 ^ 7 := Nat.pow_le_pow_right (by omega) hk1
  have l1 : xL X1 0 b1 = some L1 := xL_iff.mpr q3
  have lb : xL X1 0 b = some L := xL_iff.mpr (q7.2.2 _ _ j3)
  have e30 : X1.2.1 30 2 = some b := by rw [q10 30 2 (by omega) (by omega)]; exact j2
  have f30 : X1.1 30 0 = Int32.ofNat N := by rw [q9 30 (by omega)]; exact j1
  have tb1 : T1 b = 1 := by rw [u1 b hb]; exact j6
  have ne : ∀ a, (32 ≤ a ∧ a ≤ 34) ∨ (53 ≤ a ∧ a ≤ 55) ∨ a = 51 → a ≠ b1 ∧ a ≠ b := by
    intro a ha
    have ta : T1 a = 1000 + a := by
      rw [u1 a (by omega)]
      exact ht a (by omega) (by omega) (by omega) (by omega) (by omega) (by omega) (by omega)
    refine ⟨fun q => ?_, fun q => ?_⟩
    · rw [q, q6] at ta; omega
    · rw [q, tb1] at ta; omega
  have nbb : b ≠ b1 := by intro q; rw [← q, tb1] at q6; omega
  have n51 := (ne 51 (by omega))
  have mn : (if Int32.ofNat L < Int32.ofNat N then Int32.ofNat L else Int32.ofNat N) = Int32.ofNat N := if_neg (by rw [o_lt _ _ (by omega) (by omega)]; omega)
  have cp1 : cpo 0 0 (Int32.ofNat N) L L1 := by
    rw [show (0 : Int32) = Int32.ofNat 0 from rfl, o_cpo 0 0 N L L1 (by omega) (by omega) (by omega)]
    omega
  have cp24 : cpo 0 0 24 24 24 := by decide
  have cp8 : cpo 0 0 8 8 8 := by decide
  have cp10 : cpo 0 0 10 10 10 := by decide
  generalize hX2 : xw X1 51 0 (Int32.ofNat N) = X2
  have g2 : X2.2 = X1.2 := by rw [← hX2]; rfl
  have gb : X2.1 b = X1.1 b := by rw [← hX2]; exact xw_ne _ _ _ _ n51.2.symm
  generalize hX3 : xc X2 (X2.1 b) b1 0 0 N = X3
  generalize hX4 : xc X3 (X3.1 32) 53 0 0 24 = X4
  generalize hX5 : xc X4 (X4.1 33) 54 0 0 8 = X5
  generalize hX6 : xc X5 (X5.1 34) 55 0 0 10 = X6
  have fin : f_Image_copyFrom_51_30 X = some X6 := by
    unfold f_Image_copyFrom_51_30
    refine (Ez r1).trans ((Ez (xL_iff.mpr r2)).trans ((Ez j2).trans ((Ez (xL_iff.mpr j3)).trans ?_)))
    rw [← e5, q1, Option.bind_some]
    refine (Ez e30).trans ((Ez lb).trans ?_)
    rw [f30, mn]
    show ocz ((xw X1 51 0 (Int32.ofNat N)).2.1 30 2) none _ = _
    rw [hX2]
    have a1 : X2.2.1 30 2 = some b := by rw [g2]; exact e30
    have a2 : X2.2.1 51 2 = some b1 := by rw [g2]; exact q2
    have eL : ∀ t c, xL X2 t c = xL X1 t c := fun t c => by unfold xL xT hT; rw [g2]
    have a3 : xL X2 0 b = some L := by rw [eL]; exact lb
    have a4 : xL X2 0 b1 = some L1 := by rw [eL]; exact l1
    have a5 : X2.1 51 0 = Int32.ofNat N := by rw [← hX2, xw1, if_pos ⟨rfl, rfl⟩]
    refine (Ez a1).trans ((Ez a2).trans ((Ez a3).trans ((Ez a4).trans ?_)))
    rw [a5, if_pos cp1, o_cl _ (by omega), hX3]
    show (if cpo 0 0 24 24 24 then (lt (xc X3 (X3.1 32) 53 0 0 24) fun X34 => _) else none) = _
    rw [if_pos cp24, hX4]
    show (if cpo 0 0 8 8 8 then (lt (xc X4 (X4.1 33) 54 0 0 8) fun X36 => _) else none) = _
    rw [if_pos cp8, hX5]
    show (if cpo 0 0 10 10 10 then (lt (xc X5 (X5.1 34) 55 0 0 10) fun X38 => _) else none) = _
    rw [if_pos cp10, hX6]
  have s2 : X6.2 = X1.2 := by rw [← hX6, xc2, ← hX5, xc2, ← hX4, xc2, ← hX3, xc2, g2]
  have o3 : ∀ c, c ≠ b1 → X3.1 c = X2.1 c := fun c hc => by rw [← hX3]; unfold xc; dsimp only; rw [if_neg hc]
  have o4 : ∀ c, c ≠ 53 → X4.1 c = X3.1 c := fun c hc => by rw [← hX4]; unfold xc; dsimp only; rw [if_neg hc]
  have o5 : ∀ c, c ≠ 54 → X5.1 c = X4.1 c := fun c hc => by rw [← hX5]; unfold xc; dsimp only; rw [if_neg hc]
  have o6 : ∀ c, c ≠ 55 → X6.1 c = X5.1 c := fun c hc => by rw [← hX6]; unfold xc; dsimp only; rw [if_neg hc]
  have o2 : ∀ c, c ≠ 51 → X2.1 c = X1.1 c := fun c hc => by rw [← hX2]; exact xw_ne _ _ _ _ hc
  have oo : ∀ c, c ≠ 51 → c ≠ b1 → c ≠ 53 → c ≠ 54 → c ≠ 55 → X6.1 c = X1.1 c := fun c h1 h2 h3 h4 h5 => by rw [o6 c h5, o5 c h4, o4 c h3, o3 c h2, o2 c h1]
  have eT : ∀ c, xT X6 c = xT X1 c := fun c => by unfold xT hT; rw [s2]
  refine ⟨X6, T1, fin, ⟨b1, L1, ⟨?_, ?_, ?_, ?_, ⟨k1, hk1, hL1⟩, q6⟩, ?_, ?_, ?_, ?_⟩, q8, q7.trans (Mo.id T1 s2), ?_⟩
  · rw [o6 51 (by omega), o5 51 (by omega), o4 51 (by omega), o3 51 n51.1, ← hX2, xw1, if_pos ⟨rfl, rfl⟩, hN]
  · rw [s2]; exact q2
  · rw [eT]; exact q3
  · omega
  · intro j hj
    rw [hN] at hj
    have n53 := (ne 53 (by omega)).1
    have n54 := (ne 54 (by omega)).1
    have n55 := (ne 55 (by omega)).1
    rw [o6 b1 n55.symm, o5 b1 n54.symm, o4 b1 n53.symm, ← hX3, xc1, if_pos (by omega), gb, q9 b hb]
    rw [show 0 + (j - 0) = j by omega]
    rw [hN]
    exact i2 j hj
  · intro m hm hf
    have n32 := (ne 32 (by omega)).1
    have q := cnt_max (fmB Mr 75) m
    rw [o6 53 (by omega), o5 53 (by omega), ← hX4, xc1, if_pos (by omega), o3 32 n32, o2 32 (by omega), q9 32 (by omega), show 0 + (cnt (fmB Mr 75) m - 0) = cnt (fmB Mr 75) m by omega]
    exact i3 m hm hf
  · intro n hn
    have n33 := (ne 33 (by omega)).1
    rw [o6 54 (by omega), ← hX5, xc1, if_pos (by omega), o4 33 (by omega), o3 33 n33, o2 33 (by omega), q9 33 (by omega), show 0 + (n - 0) = n by omega]
    exact i4 n hn
  · intro c hc hf
    have n34 := (ne 34 (by omega)).1
    have q := cnt_max (fmB Mr 77) c
    rw [← hX6, xc1, if_pos (by omega), o5 34 (by omega), o4 34 (by omega), o3 34 n34, o2 34 (by omega), q9 34 (by omega), show 0 + (cnt (fmB Mr 77) c - 0) = cnt (fmB Mr 77) c by omega]
    exact i5 c hc hf
  · intro c hc hs
    have x51 : c ≠ 51 := by intro q; subst q; exact hs (by rw [t51]; unfold CopT; omega)
    have x5 : ∀ a, 53 ≤ a → a ≤ 55 → c ≠ a := by
      intro a h1 h2 q
      subst q
      exact hs (by rw [tf c (by omega)]; unfold CopT; omega)
    have xb : c ≠ b1 := by
      intro q
      have := u1 c hc
      rw [q, q6, ← q] at this
      exact hs (by rw [← this]; unfold CopT; omega)
    refine ⟨by rw [oo c x51 xb (x5 53 (by omega) (by omega)) (x5 54 (by omega) (by omega)) (x5 55 (by omega) (by omega))]; exact q9 c hc, ?_⟩
    rw [s2]
    funext f
    exact q10 c f hc (fun q => x51 q.1)
