/-! P9 -/
set_option maxRecDepth 20000 in
set_option maxHeartbeats 4000000 in
theorem call_ok {k : Kx} {T C : Nat → Nat} {n : Nat} {X : XS} {V M : MS} {g' l' : Nat → Int32} {h' h1 r : Nat} (ok : k.c.Ok) (md : Md k T C n X V M (k.S.2.2.2.1 k.i) (k.S.2.2.1 k.i) (k.S.2.2.2.2.1 k.i)) (hr24 : r < 24) (hre : fm k.c.Mr 75 r) (hd : k.d + 1 < 20) (pop : popsK (k.S.2.2.2.1 k.i) (callK k.c.Mr r) (k.S.2.2.1 k.i) = some h1) (put : putT (k.c.Mr.1 68 r) (k.S.2.2.2.1 k.i) h1 (k.S.2.2.2.2.1 k.i) = some (g', h', l')) (cv : Cov k.S (k.i + 1) g' h' l') (hop : opN k.c.Mr k.m k.i = 38 ∨ opN k.c.Mr k.m k.i = 39) : ∃ X' V' M', f_Strand_enterTaking (C (600 + 16 * k.t)) (Int32.ofNat (rn k.c.Mr r)) (Int32.ofNat (caN k.c.Mr r)) (tkn k.c.Mr r) X = some (true, X') ∧ f_M_call (Int32.ofNat k.t) (Int32.ofNat r) M = some M' ∧ M'.1 60 90 = M.1 60 90 ∧ Rn k.c k.A k.hp k.nb k.oc k.U k.W k.D T C n X' V' M' := by
  obtain ⟨t1, t2, t3⟩ := md.t6
  obtain ⟨gp, ht0, him, hkp⟩ := ok
  have rrc := gp.2.2.1.2.2.1 r hr24 hre
  obtain ⟨eT, u5, eC, na, hna, e66, eN⟩ := tN_eq gp rrc
  rw [eC] at pop
  obtain ⟨hh, hargs⟩ := popsK_ls _ _ _ pop
  generalize hu : tN k.c.Mr r = u at *
  obtain ⟨m0, m1, m2, m3, m4, m5, m6, m7, m8, m9, m10, m11, m12⟩ := md
  have tp := m3
  obtain ⟨q0, q1, q2, q3, q4, q5, q6, q7, q8, q9, q10, q11, q12⟩ := m3
  have h10 := q10.le
  have l0 : Lv n (600 + 16 * k.t) := Lv_s (f := 0) t1 (by omega)
  have l5 : Lv n (605 + 16 * k.t) := Lv_s (f := 5) t1 (by omega)
  have l6 : Lv n (606 + 16 * k.t) := Lv_s (f := 6) t1 (by omega)
  have l9 : Lv n (609 + 16 * k.t) := Lv_s (f := 9) t1 (by omega)
  have l10 : Lv n (610 + 16 * k.t) := Lv_s (f := 10) t1 (by omega)
  have l11 : Lv n (611 + 16 * k.t) := Lv_s (f := 11) t1 (by omega)
  have r0 := m0.rd l0
  have hb : ∀ q, q < u → vp_nar .boolean (M.1 116 (440 * k.t + (22 * (k.d + 1 - 1) + 12 + h1) + q)) = M.1 116 (440 * k.t + (22 * (k.d + 1 - 1) + 12 + h1) + q) := by
    intro q hq
    have := (q10.stk (h1 + q) (by omega)).1.nar.1
    rw [show 440 * k.t + (22 * (k.d + 1 - 1) + 12 + h1) + q = 440 * k.t + (22 * k.d + 12 + (h1 + q)) by omega]
    exact this
  have many : (if ¬ M.1 100 (24 + r) = -2 then M.1 99 (24 + r) + 1 else M.1 99 (24 + r) + 0) = Int32.ofNat u := by
    have a1 : M.1 99 (24 + r) = k.c.Mr.1 66 r := by
      rw [m1 99 _ (by unfold RunM; omega)]
      have := (hkp.2.1 r rrc).1
      rw [show 24 + r = 24 * 1 + r by omega, this]
    have a2 : M.1 100 (24 + r) = k.c.Mr.1 65 r := by
      rw [m1 100 _ (by unfold RunM; omega)]
      have := (hkp.2.1 r rrc).2.1
      rw [show 24 + r = 24 * 1 + r by omega, this]
    rw [a1, a2, e66, eN]
    by_cases c : k.c.Mr.1 65 r = -2
    · rw [if_neg (fun z => z c), if_pos c, Int32.add_zero]
    · rw [if_pos c, if_neg c, o_addR]
  have cm := callM_eq (M := M) (t := k.t) (D := k.d + 1) (r := r) (h1 := h1) (u := u) t2 (by omega) (by omega) hr24 q1 (by rw [Nat.add_sub_cancel]; exact m10) (by rw [Nat.add_sub_cancel, q5, hh]) (by omega) many hb
  rw [Nat.add_sub_cancel] at cm
  generalize hM5 : cpM (bfM (mw M 114 (20 * k.t + k.d) (Int32.ofNat h1)) k.t (k.d + 1) (Int32.ofNat r)) (440 * k.t + (22 * k.d + 12 + h1)) (440 * k.t + 22 * (k.d + 1)) u = M5 at cm
  have bO : ∀ b, b ≠ 109 → b ≠ 112 → b ≠ 113 → b ≠ 114 → b ≠ 115 → b ≠ 116 → M5.1 b = M.1 b := fun b h1 h2 h3 h4 h5 h6 => by
    rw [← hM5]
    unfold cpM bfM clM
    rw [mcr _ _ _ _ _ h6, mcr _ _ _ _ _ h5, mfr _ _ _ _ h6, mfr _ _ _ _ h5, mwr _ _ _ h4, mwr _ _ _ h3, mwr _ _ _ h2, mwr _ _ _ h1, mwr _ _ _ h4]
  have b9 : ∀ q, M5.1 109 q = if q = k.t then Int32.ofNat (k.d + 1 + 1) else M.1 109 q := fun q => by
    rw [← hM5]
    unfold cpM bfM clM
    rw [mcr _ _ _ _ _ (by omega), mcr _ _ _ _ _ (by omega), mfr _ _ _ _ (by omega), mfr _ _ _ _ (by omega), mwr _ _ _ (by omega), mwr _ _ _ (by omega), mwr _ _ _ (by omega), mw1, mwr _ _ _ (by omega)]
    simp
  have b12 : ∀ q, M5.1 112 q = if q = 20 * k.t + (k.d + 1) then Int32.ofNat r else M.1 112 q := fun q => by
    rw [← hM5]
    unfold cpM bfM clM
    rw [mcr _ _ _ _ _ (by omega), mcr _ _ _ _ _ (by omega), mfr _ _ _ _ (by omega), mfr _ _ _ _ (by omega), mwr _ _ _ (by omega), mwr _ _ _ (by omega), mw1, mwr _ _ _ (by omega), mwr _ _ _ (by omega)]
    simp
  have b13 : ∀ q, M5.1 113 q = if q = 20 * k.t + (k.d + 1) then 0 else M.1 113 q := fun q => by
    rw [← hM5]
    unfold cpM bfM clM
    rw [mcr _ _ _ _ _ (by omega), mcr _ _ _ _ _ (by omega), mfr _ _ _ _ (by omega), mfr _ _ _ _ (by omega), mwr _ _ _ (by omega), mw1, mwr _ _ _ (by omega), mwr _ _ _ (by omega), mwr _ _ _ (by omega)]
    simp
  have b14 : ∀ q, M5.1 114 q = if q = 20 * k.t + (k.d + 1) then 0 else if q = 20 * k.t + k.d then Int32.ofNat h1 else M.1 114 q := fun q => by
    rw [← hM5]
    unfold cpM bfM clM
    rw [mcr _ _ _ _ _ (by omega), mcr _ _ _ _ _ (by omega), mfr _ _ _ _ (by omega), mfr _ _ _ _ (by omega), mw1, mwr _ _ _ (by omega), mwr _ _ _ (by omega), mwr _ _ _ (by omega), mw1]
    simp
  have z5 : ∀ q, (bfM (mw M 114 (20 * k.t + k.d) (Int32.ofNat h1)) k.t (k.d + 1) (Int32.ofNat r)).1 115 q = if 440 * k.t + 22 * (k.d + 1) ≤ q ∧ q < 440 * k.t + 22 * (k.d + 1) + 22 then 0 else M.1 115 q := fun q => by
    unfold bfM clM
    rw [mfr _ _ _ _ (by omega), mf1, mwr _ _ _ (by omega), mwr _ _ _ (by omega), mwr _ _ _ (by omega), mwr _ _ _ (by omega), mwr _ _ _ (by omega)]
    simp
  have z6 : ∀ q, (bfM (mw M 114 (20 * k.t + k.d) (Int32.ofNat h1)) k.t (k.d + 1) (Int32.ofNat r)).1 116 q = if 440 * k.t + 22 * (k.d + 1) ≤ q ∧ q < 440 * k.t + 22 * (k.d + 1) + 22 then 0 else M.1 116 q := fun q => by
    unfold bfM clM
    rw [mf1, mfr _ _ _ _ (by omega), mwr _ _ _ (by omega), mwr _ _ _ (by omega), mwr _ _ _ (by omega), mwr _ _ _ (by omega), mwr _ _ _ (by omega)]
    simp
  have b15 : ∀ q, M5.1 115 q = if 440 * k.t + 22 * (k.d + 1) ≤ q ∧ q < 440 * k.t + 22 * (k.d + 1) + 22 then (if q < 440 * k.t + 22 * (k.d + 1) + u then M.1 115 (440 * k.t + (22 * k.d + 12 + h1) + (q - (440 * k.t + 22 * (k.d + 1)))) else 0) else M.1 115 q := fun q => by
    rw [← hM5]
    unfold cpM
    rw [mcr _ _ _ _ _ (by omega), mc1]
    by_cases c : 440 * k.t + 22 * (k.d + 1) ≤ q ∧ q < 440 * k.t + 22 * (k.d + 1) + 22
    · rw [if_pos c]
      by_cases c2 : q < 440 * k.t + 22 * (k.d + 1) + u
      · rw [if_pos ⟨rfl, c.1, c2⟩, if_pos c2, z5, if_neg (by omega)]
      · rw [if_neg (fun z => c2 z.2.2), if_neg c2, z5, if_pos c]
    · rw [if_neg c, if_neg (by omega), z5, if_neg c]
  have b16 : ∀ q, M5.1 116 q = if 440 * k.t + 22 * (k.d + 1) ≤ q ∧ q < 440 * k.t + 22 * (k.d + 1) + 22 then (if q < 440 * k.t + 22 * (k.d + 1) + u then M.1 116 (440 * k.t + (22 * k.d + 12 + h1) + (q - (440 * k.t + 22 * (k.d + 1)))) else 0) else M.1 116 q := fun q => by
    rw [← hM5]
    unfold cpM
    rw [mc1, mcr _ _ _ _ _ (by omega)]
    by_cases c : 440 * k.t + 22 * (k.d + 1) ≤ q ∧ q < 440 * k.t + 22 * (k.d + 1) + 22
    · rw [if_pos c]
      by_cases c2 : q < 440 * k.t + 22 * (k.d + 1) + u
      · rw [if_pos ⟨rfl, c.1, c2⟩, if_pos c2, z6, if_neg (by omega)]
      · rw [if_neg (fun z => c2 z.2.2), if_neg c2, z6, if_pos c]
    · rw [if_neg c, if_neg (by omega), z6, if_neg c]
  have dM : M5.2 = M.2 := by rw [← hM5]; rfl
  obtain ⟨X1, X2, X3, hX1, hX2, hX3, en⟩ := enterT_eq (m0.sc t1) (d := k.d + 1) (bo := 22 * k.d + 12) (h := h1) (u := u) (by rw [r0]; exact q2) (by omega) hd (by rw [r0]; exact q8) (by rw [r0, q9, hh]) (by omega) (by omega) (Int32.ofNat (rn k.c.Mr r)) (Int32.ofNat (caN k.c.Mr r))
  rw [← eT] at en
  have nkd : ¬ k.d + 1 = 0 := by omega
  have w0 := m0.w l0 8 (Int32.ofNat h1)
  have rr0 := w0.rd l0
  have ek : xk (xw X (C (600 + 16 * k.t)) 8 (Int32.ofNat h1)) (C (600 + 16 * k.t)) (C (609 + 16 * k.t)) (C (610 + 16 * k.t)) (C (611 + 16 * k.t)) (k.d + 1) = xw (xw (xw (xw X (C (600 + 16 * k.t)) 8 (Int32.ofNat h1)) (C (609 + 16 * k.t)) k.d (Int32.ofNat (rn k.c.Mr k.m))) (C (610 + 16 * k.t)) k.d (Int32.ofNat (caN k.c.Mr k.m + off k.c.Mr k.m k.i))) (C (611 + 16 * k.t)) k.d (Int32.ofNat h1) := by
    unfold xk
    rw [if_neg nkd, rr0, mwi _ _ _ (by omega), mwi _ _ _ (by omega), mw1, if_pos ⟨rfl, rfl⟩, q6, q7, Nat.add_sub_cancel]
  rw [ek] at hX1
  unfold xe at hX1
  have w1 := ((w0.w l9 k.d (Int32.ofNat (rn k.c.Mr k.m))).w l10 k.d (Int32.ofNat (caN k.c.Mr k.m + off k.c.Mr k.m k.i))).w l11 k.d (Int32.ofNat h1)
  have w2 := (((((((w1.fill l5 (22 * (k.d + 1)) (22 * (k.d + 1) + 22) 0).fill l6 (22 * (k.d + 1)) (22 * (k.d + 1) + 22) 0).w l0 3 (Int32.ofNat (rn k.c.Mr r))).w l0 4 (Int32.ofNat (caN k.c.Mr r))).w l0 7 (Int32.ofNat (22 * (k.d + 1) + 12))).w l0 8 0).w l0 2 (Int32.ofNat (k.d + 1 + 1)))
  rw [← hX1] at w2
  generalize hV2 : mw (mw (mw (mw (mw (mf (mf (mw (mw (mw (mw V (600 + 16 * k.t) 8 (Int32.ofNat h1)) (609 + 16 * k.t) k.d (Int32.ofNat (rn k.c.Mr k.m))) (610 + 16 * k.t) k.d (Int32.ofNat (caN k.c.Mr k.m + off k.c.Mr k.m k.i))) (611 + 16 * k.t) k.d (Int32.ofNat h1)) (605 + 16 * k.t) (22 * (k.d + 1)) (22 * (k.d + 1) + 22) 0) (606 + 16 * k.t) (22 * (k.d + 1)) (22 * (k.d + 1) + 22) 0) (600 + 16 * k.t) 3 (Int32.ofNat (rn k.c.Mr r))) (600 + 16 * k.t) 4 (Int32.ofNat (caN k.c.Mr r))) (600 + 16 * k.t) 7 (Int32.ofNat (22 * (k.d + 1) + 12))) (600 + 16 * k.t) 8 0) (600 + 16 * k.t) 2 (Int32.ofNat (k.d + 1 + 1)) = V2 at w2
  have w3 := w2.cpy l5 l5 (22 * k.d + 12 + h1) (22 * (k.d + 1)) u
  rw [← hX2] at w3
  have w4 := w3.cpy l6 l6 (22 * k.d + 12 + h1) (22 * (k.d + 1)) u
  rw [← hX3] at w4
  have w5 := w4.fill l6 (22 * k.d + 12 + h1) (22 * k.d + 12 + h1 + u) 0
  generalize hV5 : mf (mc (mc V2 (V2.1 (605 + 16 * k.t)) (605 + 16 * k.t) (22 * k.d + 12 + h1) (22 * (k.d + 1)) u) ((mc V2 (V2.1 (605 + 16 * k.t)) (605 + 16 * k.t) (22 * k.d + 12 + h1) (22 * (k.d + 1)) u).1 (606 + 16 * k.t)) (606 + 16 * k.t) (22 * k.d + 12 + h1) (22 * (k.d + 1)) u) (606 + 16 * k.t) (22 * k.d + 12 + h1) (22 * k.d + 12 + h1 + u) 0 = V5 at w5
  have c2 : ∀ b, b ≠ 605 + 16 * k.t → b ≠ 606 + 16 * k.t → V5.1 b = V2.1 b := fun b h5 h6 => by rw [← hV5, mfr _ _ _ _ h6, mcr _ _ _ _ _ h6, mcr _ _ _ _ _ h5]
  have cO : ∀ b, b ≠ 600 + 16 * k.t → b ≠ 605 + 16 * k.t → b ≠ 606 + 16 * k.t → b ≠ 609 + 16 * k.t → b ≠ 610 + 16 * k.t → b ≠ 611 + 16 * k.t → V5.1 b = V.1 b := fun b h0 h5 h6 h9 h10 h11 => by
    rw [c2 b h5 h6, ← hV2, mwr _ _ _ h0, mwr _ _ _ h0, mwr _ _ _ h0, mwr _ _ _ h0, mwr _ _ _ h0, mfr _ _ _ _ h6, mfr _ _ _ _ h5, mwr _ _ _ h11, mwr _ _ _ h10, mwr _ _ _ h9, mwr _ _ _ h0]
  have c0 : ∀ f, V5.1 (600 + 16 * k.t) f = if f = 2 then Int32.ofNat (k.d + 1 + 1) else if f = 8 then 0 else if f = 7 then Int32.ofNat (22 * (k.d + 1) + 12) else if f = 4 then Int32.ofNat (caN k.c.Mr r) else if f = 3 then Int32.ofNat (rn k.c.Mr r) else V.1 (600 + 16 * k.t) f := fun f => by
    rw [c2 _ (by omega) (by omega), ← hV2, mw1, mw1, mw1, mw1, mw1, mfr _ _ _ _ (by omega), mfr _ _ _ _ (by omega), mwr _ _ _ (by omega), mwr _ _ _ (by omega), mwr _ _ _ (by omega)]
    simp only [true_and]
    by_cases e2 : f = 2
    · rw [if_pos e2, if_pos e2]
    · rw [if_neg e2, if_neg e2]
      by_cases e8 : f = 8
      · rw [if_pos e8, if_pos e8]
      · rw [if_neg e8, if_neg e8, mwi _ _ _ e8]
  have c9 : ∀ q, V5.1 (609 + 16 * k.t) q = if q = k.d then Int32.ofNat (rn k.c.Mr k.m) else V.1 (609 + 16 * k.t) q := fun q => by
    rw [c2 _ (by omega) (by omega), ← hV2, mwr _ _ _ (by omega), mwr _ _ _ (by omega), mwr _ _ _ (by omega), mwr _ _ _ (by omega), mwr _ _ _ (by omega), mfr _ _ _ _ (by omega), mfr _ _ _ _ (by omega), mwr _ _ _ (by omega), mwr _ _ _ (by omega), mw1, mwr _ _ _ (by omega)]
    simp
  have c10 : ∀ q, V5.1 (610 + 16 * k.t) q = if q = k.d then Int32.ofNat (caN k.c.Mr k.m + off k.c.Mr k.m k.i) else V.1 (610 + 16 * k.t) q := fun q => by
    rw [c2 _ (by omega) (by omega), ← hV2, mwr _ _ _ (by omega), mwr _ _ _ (by omega), mwr _ _ _ (by omega), mwr _ _ _ (by omega), mwr _ _ _ (by omega), mfr _ _ _ _ (by omega), mfr _ _ _ _ (by omega), mwr _ _ _ (by omega), mw1, mwr _ _ _ (by omega), mwr _ _ _ (by omega)]
    simp
  have c11 : ∀ q, V5.1 (611 + 16 * k.t) q = if q = k.d then Int32.ofNat h1 else V.1 (611 + 16 * k.t) q := fun q => by
    rw [c2 _ (by omega) (by omega), ← hV2, mwr _ _ _ (by omega), mwr _ _ _ (by omega), mwr _ _ _ (by omega), mwr _ _ _ (by omega), mwr _ _ _ (by omega), mfr _ _ _ _ (by omega), mfr _ _ _ _ (by omega), mw1, mwr _ _ _ (by omega), mwr _ _ _ (by omega), mwr _ _ _ (by omega)]
    simp
  have y5 : ∀ q, V2.1 (605 + 16 * k.t) q = if 22 * (k.d + 1) ≤ q ∧ q < 22 * (k.d + 1) + 22 then 0 else V.1 (605 + 16 * k.t) q := fun q => by
    rw [← hV2, mwr _ _ _ (by omega), mwr _ _ _ (by omega), mwr _ _ _ (by omega), mwr _ _ _ (by omega), mwr _ _ _ (by omega), mfr _ _ _ _ (by omega), mf1, mwr _ _ _ (by omega), mwr _ _ _ (by omega), mwr _ _ _ (by omega), mwr _ _ _ (by omega)]
    simp
  have y6 : ∀ q, V2.1 (606 + 16 * k.t) q = if 22 * (k.d + 1) ≤ q ∧ q < 22 * (k.d + 1) + 22 then 0 else V.1 (606 + 16 * k.t) q := fun q => by
    rw [← hV2, mwr _ _ _ (by omega), mwr _ _ _ (by omega), mwr _ _ _ (by omega), mwr _ _ _ (by omega), mwr _ _ _ (by omega), mf1, mfr _ _ _ _ (by omega), mwr _ _ _ (by omega), mwr _ _ _ (by omega), mwr _ _ _ (by omega), mwr _ _ _ (by omega)]
    simp
  have c5 : ∀ q, V5.1 (605 + 16 * k.t) q = if 22 * (k.d + 1) ≤ q ∧ q < 22 * (k.d + 1) + 22 then (if q < 22 * (k.d + 1) + u then V.1 (605 + 16 * k.t) (22 * k.d + 12 + h1 + (q - 22 * (k.d + 1))) else 0) else V.1 (605 + 16 * k.t) q := fun q => by
    rw [← hV5, mfr _ _ _ _ (by omega), mcr _ _ _ _ _ (by omega), mc1]
    by_cases c : 22 * (k.d + 1) ≤ q ∧ q < 22 * (k.d + 1) + 22
    · rw [if_pos c]
      by_cases c2 : q < 22 * (k.d + 1) + u
      · rw [if_pos ⟨rfl, c.1, c2⟩, if_pos c2, y5, if_neg (by omega)]
      · rw [if_neg (fun z => c2 z.2.2), if_neg c2, y5, if_pos c]
    · rw [if_neg c, if_neg (by omega), y5, if_neg c]
  have c6 : ∀ q, V5.1 (606 + 16 * k.t) q = if 22 * k.d + 12 + h1 ≤ q ∧ q < 22 * k.d + 12 + h1 + u then 0 else if 22 * (k.d + 1) ≤ q ∧ q < 22 * (k.d + 1) + 22 then (if q < 22 * (k.d + 1) + u then V.1 (606 + 16 * k.t) (22 * k.d + 12 + h1 + (q - 22 * (k.d + 1))) else 0) else V.1 (606 + 16 * k.t) q := fun q => by
    rw [← hV5, mf1]
    by_cases c0' : 22 * k.d + 12 + h1 ≤ q ∧ q < 22 * k.d + 12 + h1 + u
    · rw [if_pos ⟨rfl, c0'⟩, if_pos c0']
    · rw [if_neg (fun z => c0' z.2), if_neg c0', mc1]
      have rowe : (mc V2 (V2.1 (605 + 16 * k.t)) (605 + 16 * k.t) (22 * k.d + 12 + h1) (22 * (k.d + 1)) u).1 (606 + 16 * k.t) = V2.1 (606 + 16 * k.t) := mcr _ _ _ _ _ (by omega)
      rw [rowe]
      by_cases c : 22 * (k.d + 1) ≤ q ∧ q < 22 * (k.d + 1) + 22
      · rw [if_pos c]
        by_cases c2 : q < 22 * (k.d + 1) + u
        · rw [if_pos ⟨rfl, c.1, c2⟩, if_pos c2, y6, if_neg (by omega)]
        · rw [if_neg (fun z => c2 z.2.2), if_neg c2, y6, if_pos c]
      · rw [if_neg c, if_neg (by omega), y6, if_neg c]
  obtain ⟨S', mt'⟩ := gp.2.1 r hr24 hre
  have mt'' : MT k.c.Mr k.c.kc k.c.rc r S' := ⟨hr24, hre, mt'⟩
  obtain ⟨⟨s, tc, tk, hs1, hs2, hs3, hs4, ⟨na', hna', e66', etk⟩, fo⟩, _⟩ := mt'
  obtain ⟨f1, f2, f3, f4, f5, f6, f7⟩ := fo
  have etk' : tk = u := by
    rw [e66] at e66'
    rw [o_eq _ _ (by omega) (by omega)] at e66'
    rw [etk, eN, e66']
  subst etk'
  refine ⟨_, V5, M5, en, cm, by rw [bO 60 (by omega) (by omega) (by omega) (by omega) (by omega) (by omega)], w5, ?_, ?_, ?_, ?_, ?_, ?_, ?_, dM.trans m12⟩
  · intro a i hr
    rw [← m1 a i hr]
    unfold RunM at hr
    rw [bO a (by omega) (by omega) (by omega) (by omega) (by omega) (by omega)]
  · intro w hw
    by_cases e : w = k.t
    · subst e
      refine Or.inl ⟨k.d + 1, r, 0, S', mt'', f4, ⟨hd, ?_, ?_, ?_, ?_, ?_, ?_, ?_, ?_, ?_, ?_, ?_, ?_⟩, ?_⟩
      · rw [b9, if_pos rfl]
      · rw [c0, if_pos rfl]
      · rw [b12, if_pos rfl]
      · rw [b13, if_pos rfl]; rfl
      · rw [b14, if_pos rfl, f5]; rfl
      · rw [c0, if_neg (by omega), if_neg (by omega), if_neg (by omega), if_neg (by omega), if_pos rfl]
      · rw [c0, if_neg (by omega), if_neg (by omega), if_neg (by omega), if_pos rfl]
        rfl
      · rw [c0, if_neg (by omega), if_neg (by omega), if_pos rfl]
      · rw [c0, if_neg (by omega), if_pos rfl, f5]; rfl
      · rw [f5]
        refine ⟨by omega, ?_, fun j hj => by omega, ?_⟩
        · intro s hs
          have lq := f6 s
          by_cases cs : s < tk
          · obtain ⟨a1, a2⟩ := q10.stk (h1 + s) (by omega)
            have e6 : M5.1 116 (440 * k.t + (22 * (k.d + 1) + s)) = M.1 116 (440 * k.t + (22 * k.d + 12 + (h1 + s))) := by
              rw [b16, if_pos (by omega), if_pos (by omega), show 440 * k.t + (22 * k.d + 12 + h1) + (440 * k.t + (22 * (k.d + 1) + s) - (440 * k.t + 22 * (k.d + 1))) = 440 * k.t + (22 * k.d + 12 + (h1 + s)) by omega]
            refine ⟨?_, ?_⟩
            · unfold SlR
              rw [e6, b15, if_pos (by omega), if_pos (by omega), c5, if_pos (by omega), if_pos (by omega), c6, if_neg (by omega), if_pos (by omega), if_pos (by omega)]
              rw [show 440 * k.t + (22 * k.d + 12 + h1) + (440 * k.t + (22 * (k.d + 1) + s) - (440 * k.t + 22 * (k.d + 1))) = 440 * k.t + (22 * k.d + 12 + (h1 + s)) by omega, show 22 * k.d + 12 + h1 + (22 * (k.d + 1) + s - 22 * (k.d + 1)) = 22 * k.d + 12 + (h1 + s) by omega]
              exact a1
            · rw [e6, ← a2, hargs s cs]
              unfold lin at lq
              rw [if_pos cs] at lq
              exact lq
          · have e6 : M5.1 116 (440 * k.t + (22 * (k.d + 1) + s)) = 0 := by
              rw [b16, if_pos (by omega), if_neg (by omega)]
            refine ⟨Or.inl ⟨e6, ?_, ?_⟩, ?_⟩
            · rw [c6, if_neg (by omega), if_pos (by omega), if_neg (by omega)]
            · rw [c5, if_pos (by omega), if_neg (by omega), b15, if_pos (by omega), if_neg (by omega)]
            · unfold lin at lq
              rw [if_neg cs] at lq
              left
              rcases lq with z | z <;> exact z
        · intro j h1' h2'
          rw [c6, if_neg (by omega), if_pos (by omega), if_neg (by omega)]
      · rw [bO 110 (by omega) (by omega) (by omega) (by omega) (by omega) (by omega), c0, if_neg (by omega), if_neg (by omega), if_neg (by omega), if_neg (by omega), if_neg (by omega)]
        exact q11
      · rw [bO 111 (by omega) (by omega) (by omega) (by omega) (by omega) (by omega), c0, if_neg (by omega), if_neg (by omega), if_neg (by omega), if_neg (by omega), if_neg (by omega)]
        exact q12
      · intro q hq
        by_cases eq : q = k.d
        · subst eq
          refine ⟨k.m, k.i, h1, k.S, g', h', l', m2.1, m2.2, ?_, ?_, ?_, ?_, ?_, ?_, ?_, ?_, cv, hop⟩
          · rw [b12, if_neg (by omega)]; exact q3
          · rw [b13, if_neg (by omega)]; exact q4
          · rw [b14, if_neg (by omega), if_pos rfl]
          · rw [c9, if_pos rfl]
          · rw [c10, if_pos rfl]
          · rw [c11, if_pos rfl]
          · refine ⟨by omega, ?_, ?_, ?_⟩
            · intro s hs
              rw [b16, if_neg (by omega)]
              exact ⟨(q10.loc s hs).1.congr (by rw [c5, if_neg (by omega)]) (by rw [c6, if_neg (by omega), if_neg (by omega)]) (by rw [b15, if_neg (by omega)]) (by rw [b16, if_neg (by omega)]), (q10.loc s hs).2⟩
            · intro s hs
              rw [b16, if_neg (by omega)]
              exact ⟨(q10.stk s (by omega)).1.congr (by rw [c5, if_neg (by omega)]) (by rw [c6, if_neg (by omega), if_neg (by omega)]) (by rw [b15, if_neg (by omega)]) (by rw [b16, if_neg (by omega)]), (q10.stk s (by omega)).2⟩
            · intro s h1' h2'
              rw [c6]
              by_cases cs : s < h1 + tk
              · rw [if_pos (by omega)]
              · rw [if_neg (by omega), if_neg (by omega)]
                exact q10.up s (by omega) h2'
          · rw [b12, if_pos rfl, o_cl _ (by omega)]
            exact put
        · refine (m4 q (by omega)).congr ?_ ?_ ?_ ?_ ?_ ?_ ?_ ?_ ?_ ?_ ?_
          · intro s _; rw [c5, if_neg (by omega)]
          · intro s _; rw [c6, if_neg (by omega), if_neg (by omega)]
          · rw [c9, if_neg eq]
          · rw [c10, if_neg eq]
          · rw [c11, if_neg eq]
          · intro s _; rw [b15, if_neg (by omega)]
          · intro s _; rw [b16, if_neg (by omega)]
          · rw [b12, if_neg (by omega)]
          · rw [b12, if_neg (by omega)]
          · rw [b13, if_neg (by omega)]
          · rw [b14, if_neg (by omega), if_neg (by omega)]
    · refine (m5 w hw e).congr ?_ ?_ ?_ ?_
      · intro j hj; exact cO _ (by omega) (by omega) (by omega) (by omega) (by omega) (by omega)
      · intro a h1 h2
        by_cases z : a = 109
        · subst z; rw [b9, if_neg e]
        · rw [bO a z (by omega) (by omega) (by omega) (by omega) (by omega)]
      · intro a q h1 h2 h3
        rcases (show a = 112 ∨ a = 113 ∨ a = 114 by omega) with z | z | z <;> subst z
        · rw [b12, if_neg (by omega)]
        · rw [b13, if_neg (by omega)]
        · rw [b14, if_neg (by omega), if_neg (by omega)]
      · intro a s h1 h2 h3
        rcases (show a = 115 ∨ a = 116 by omega) with z | z <;> subst z
        · rw [b15, if_neg (by omega)]
        · rw [b16, if_neg (by omega)]
  · exact m6.congr (fun a ha => cO _ (by omega) (by omega) (by omega) (by omega) (by omega) (by omega)) (fun a h1 h2 _ _ => bO a (by omega) (by omega) (by omega) (by omega) (by omega) (by omega)) (fun f hf => by rw [bO 60 (by omega) (by omega) (by omega) (by omega) (by omega) (by omega)])
  · exact m7.congr (fun a h1 h2 => cO _ (by omega) (by omega) (by omega) (by omega) (by omega) (by omega)) (fun a h1 h2 => bO a (by omega) (by omega) (by omega) (by omega) (by omega) (by omega))
  · exact m8.congr (fun a h1 h2 => cO _ (by omega) (by omega) (by omega) (by omega) (by omega) (by omega)) (fun a h1 h2 => bO a (by omega) (by omega) (by omega) (by omega) (by omega) (by omega)) (fun f hf => by rw [bO 60 (by omega) (by omega) (by omega) (by omega) (by omega) (by omega)])
  · rw [cO 1040 (by omega) (by omega) (by omega) (by omega) (by omega) (by omega), bO 60 (by omega) (by omega) (by omega) (by omega) (by omega) (by omega)]; exact m9.2
  · rw [cO 1040 (by omega) (by omega) (by omega) (by omega) (by omega) (by omega), cO 1059 (by omega) (by omega) (by omega) (by omega) (by omega) (by omega), bO 60 (by omega) (by omega) (by omega) (by omega) (by omega) (by omega)]; exact m11
