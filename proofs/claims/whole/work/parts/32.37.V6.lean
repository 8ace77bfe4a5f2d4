/-! V6 -/
/-- a row's first half is copied into its second -/
def CpR (a K : Nat) (M M' : MS) : Prop := M'.2 = M.2 ∧ (∀ b, b ≠ a → M'.1 b = M.1 b) ∧ ∀ i, i < K → M'.1 a i = M.1 a i ∧ M'.1 a (K + i) = M.1 a i
set_option maxRecDepth 20000 in
set_option maxHeartbeats 4000000 in
theorem cpyM {a K : Nat} {body : Int32 × MS → Option ((Int32 × MS) ⊕ (Int32 × MS))} (hb : ∀ i M, i < K → body (Int32.ofNat i, M) = some (.inl (Int32.ofNat (i + 1), mw M a (K + i) (M.1 a i)))) (he : ∀ M, body (Int32.ofNat K, M) = some (.inr (Int32.ofNat K, M))) (hK : K < 10000) (M : MS) : ∃ M', lp body 10000 (Int32.ofNat 0, M) = some (Int32.ofNat K, M') ∧ CpR a K M M' := by
  have key : ∀ N i M1, i ≤ K → K - i < N → M1.2 = M.2 → (∀ b, b ≠ a → M1.1 b = M.1 b) → (∀ j, j < K → M1.1 a j = M.1 a j ∧ (j < i → M1.1 a (K + j) = M.1 a j)) → ∃ M', lp body N (Int32.ofNat i, M1) = some (Int32.ofNat K, M') ∧ CpR a K M M' := by
    intro N
    induction N with
    | zero => intro i M1 h1 h2; omega
    | succ N ih =>
      intro i M1 h1 h2 h3 h4 h5
      by_cases e : i = K
      · subst e
        exact ⟨M1, lp_inr (he M1), h3, h4, fun j hj => ⟨(h5 j hj).1, (h5 j hj).2 hj⟩⟩
      · rw [lp_inl (hb i M1 (by omega))]
        refine ih (i + 1) _ (by omega) (by omega) h3 (fun b hb => by rw [mwr _ _ _ hb]; exact h4 b hb) ?_
        intro j hj
        refine ⟨by rw [mwi _ _ _ (by omega)]; exact (h5 j hj).1, fun hlt => ?_⟩
        by_cases q : j = i
        · subst q
          rw [mw1, if_pos ⟨rfl, rfl⟩]
          exact (h5 j hj).1
        · rw [mwi _ _ _ (by omega)]
          exact (h5 j hj).2 (by omega)
  exact key 10000 0 M (by omega) (by omega) rfl (fun _ _ => rfl) (fun j _ => ⟨rfl, fun h => absurd h (Nat.not_lt_zero _)⟩)
set_option maxRecDepth 20000 in
set_option maxHeartbeats 4000000 in
theorem cpy_95 (M : MS) : ∃ M', f_M_copy_95 10 M = some M' ∧ CpR 95 10 M M' := by
  obtain ⟨M', e, h⟩ := cpyM (a := 95) (K := 10) (body := b2_M_copy_95 10) (fun i M hi => by
    unfold b2_M_copy_95
    dsimp only
    rw [if_neg (by rw [o_leL _ _ (by decide) (by omega)]; show ¬ 10 ≤ i; omega), if_pos (ixl (by omega) (by omega)), o_addL, if_pos (ixl (show 10 + i < 20 by omega) (by omega)), o_cl i (by omega), o_addR]
    rw [show (Int32.ofNat (OfNat.ofNat 10 + i)).toNatClampNeg = 10 + i from o_cl _ (by show 10 + i < _; omega)]) (fun M => by
    unfold b2_M_copy_95
    rw [if_pos (by show (10 : Int32) ≤ Int32.ofNat 10; decide)]) (by omega) M
  refine ⟨M', ?_, h⟩
  have e' : lp (b2_M_copy_95 10) 10000 ((0 : Int32), M) = some (Int32.ofNat 10, M') := e
  unfold f_M_copy_95
  rw [e', Option.bind_some]
set_option maxRecDepth 20000 in
set_option maxHeartbeats 4000000 in
theorem cpy_96 (M : MS) : ∃ M', f_M_copy_96 10 M = some M' ∧ CpR 96 10 M M' := by
  obtain ⟨M', e, h⟩ := cpyM (a := 96) (K := 10) (body := b2_M_copy_96 10) (fun i M hi => by
    unfold b2_M_copy_96
    dsimp only
    rw [if_neg (by rw [o_leL _ _ (by decide) (by omega)]; show ¬ 10 ≤ i; omega), if_pos (ixl (by omega) (by omega)), o_addL, if_pos (ixl (show 10 + i < 20 by omega) (by omega)), o_cl i (by omega), o_addR]
    rw [show (Int32.ofNat (OfNat.ofNat 10 + i)).toNatClampNeg = 10 + i from o_cl _ (by show 10 + i < _; omega)]) (fun M => by
    unfold b2_M_copy_96
    rw [if_pos (by show (10 : Int32) ≤ Int32.ofNat 10; decide)]) (by omega) M
  refine ⟨M', ?_, h⟩
  have e' : lp (b2_M_copy_96 10) 10000 ((0 : Int32), M) = some (Int32.ofNat 10, M') := e
  unfold f_M_copy_96
  rw [e', Option.bind_some]
set_option maxRecDepth 20000 in
set_option maxHeartbeats 4000000 in
theorem cpy_97 (M : MS) : ∃ M', f_M_copy_97 10 M = some M' ∧ CpR 97 10 M M' := by
  obtain ⟨M', e, h⟩ := cpyM (a := 97) (K := 10) (body := b2_M_copy_97 10) (fun i M hi => by
    unfold b2_M_copy_97
    dsimp only
    rw [if_neg (by rw [o_leL _ _ (by decide) (by omega)]; show ¬ 10 ≤ i; omega), if_pos (ixl (by omega) (by omega)), o_addL, if_pos (ixl (show 10 + i < 20 by omega) (by omega)), o_cl i (by omega), o_addR]
    rw [show (Int32.ofNat (OfNat.ofNat 10 + i)).toNatClampNeg = 10 + i from o_cl _ (by show 10 + i < _; omega)]) (fun M => by
    unfold b2_M_copy_97
    rw [if_pos (by show (10 : Int32) ≤ Int32.ofNat 10; decide)]) (by omega) M
  refine ⟨M', ?_, h⟩
  have e' : lp (b2_M_copy_97 10) 10000 ((0 : Int32), M) = some (Int32.ofNat 10, M') := e
  unfold f_M_copy_97
  rw [e', Option.bind_some]
set_option maxRecDepth 20000 in
set_option maxHeartbeats 4000000 in
theorem cpy_98 (M : MS) : ∃ M', f_M_copy_98 80 M = some M' ∧ CpR 98 80 M M' := by
  obtain ⟨M', e, h⟩ := cpyM (a := 98) (K := 80) (body := b2_M_copy_98 80) (fun i M hi => by
    unfold b2_M_copy_98
    dsimp only
    rw [if_neg (by rw [o_leL _ _ (by decide) (by omega)]; show ¬ 80 ≤ i; omega), if_pos (ixl (by omega) (by omega)), o_addL, if_pos (ixl (show 80 + i < 160 by omega) (by omega)), o_cl i (by omega), o_addR]
    rw [show (Int32.ofNat (OfNat.ofNat 80 + i)).toNatClampNeg = 80 + i from o_cl _ (by show 80 + i < _; omega)]) (fun M => by
    unfold b2_M_copy_98
    rw [if_pos (by show (80 : Int32) ≤ Int32.ofNat 80; decide)]) (by omega) M
  refine ⟨M', ?_, h⟩
  have e' : lp (b2_M_copy_98 80) 10000 ((0 : Int32), M) = some (Int32.ofNat 80, M') := e
  unfold f_M_copy_98
  rw [e', Option.bind_some]
set_option maxRecDepth 20000 in
set_option maxHeartbeats 4000000 in
theorem cpy_99 (M : MS) : ∃ M', f_M_copy_99 24 M = some M' ∧ CpR 99 24 M M' := by
  obtain ⟨M', e, h⟩ := cpyM (a := 99) (K := 24) (body := b2_M_copy_99 24) (fun i M hi => by
    unfold b2_M_copy_99
    dsimp only
    rw [if_neg (by rw [o_leL _ _ (by decide) (by omega)]; show ¬ 24 ≤ i; omega), if_pos (ixl (by omega) (by omega)), o_addL, if_pos (ixl (show 24 + i < 48 by omega) (by omega)), o_cl i (by omega), o_addR]
    rw [show (Int32.ofNat (OfNat.ofNat 24 + i)).toNatClampNeg = 24 + i from o_cl _ (by show 24 + i < _; omega)]) (fun M => by
    unfold b2_M_copy_99
    rw [if_pos (by show (24 : Int32) ≤ Int32.ofNat 24; decide)]) (by omega) M
  refine ⟨M', ?_, h⟩
  have e' : lp (b2_M_copy_99 24) 10000 ((0 : Int32), M) = some (Int32.ofNat 24, M') := e
  unfold f_M_copy_99
  rw [e', Option.bind_some]
set_option maxRecDepth 20000 in
set_option maxHeartbeats 4000000 in
theorem cpy_100 (M : MS) : ∃ M', f_M_copy_100 24 M = some M' ∧ CpR 100 24 M M' := by
  obtain ⟨M', e, h⟩ := cpyM (a := 100) (K := 24) (body := b2_M_copy_100 24) (fun i M hi => by
    unfold b2_M_copy_100
    dsimp only
    rw [if_neg (by rw [o_leL _ _ (by decide) (by omega)]; show ¬ 24 ≤ i; omega), if_pos (ixl (by omega) (by omega)), o_addL, if_pos (ixl (show 24 + i < 48 by omega) (by omega)), o_cl i (by omega), o_addR]
    rw [show (Int32.ofNat (OfNat.ofNat 24 + i)).toNatClampNeg = 24 + i from o_cl _ (by show 24 + i < _; omega)]) (fun M => by
    unfold b2_M_copy_100
    rw [if_pos (by show (24 : Int32) ≤ Int32.ofNat 24; decide)]) (by omega) M
  refine ⟨M', ?_, h⟩
  have e' : lp (b2_M_copy_100 24) 10000 ((0 : Int32), M) = some (Int32.ofNat 24, M') := e
  unfold f_M_copy_100
  rw [e', Option.bind_some]
set_option maxRecDepth 20000 in
set_option maxHeartbeats 4000000 in
theorem cpy_101 (M : MS) : ∃ M', f_M_copy_101 24 M = some M' ∧ CpR 101 24 M M' := by
  obtain ⟨M', e, h⟩ := cpyM (a := 101) (K := 24) (body := b2_M_copy_101 24) (fun i M hi => by
    unfold b2_M_copy_101
    dsimp only
    rw [if_neg (by rw [o_leL _ _ (by decide) (by omega)]; show ¬ 24 ≤ i; omega), if_pos (ixl (by omega) (by omega)), o_addL, if_pos (ixl (show 24 + i < 48 by omega) (by omega)), o_cl i (by omega), o_addR]
    rw [show (Int32.ofNat (OfNat.ofNat 24 + i)).toNatClampNeg = 24 + i from o_cl _ (by show 24 + i < _; omega)]) (fun M => by
    unfold b2_M_copy_101
    rw [if_pos (by show (24 : Int32) ≤ Int32.ofNat 24; decide)]) (by omega) M
  refine ⟨M', ?_, h⟩
  have e' : lp (b2_M_copy_101 24) 10000 ((0 : Int32), M) = some (Int32.ofNat 24, M') := e
  unfold f_M_copy_101
  rw [e', Option.bind_some]
set_option maxRecDepth 20000 in
set_option maxHeartbeats 4000000 in
theorem cpy_102 (M : MS) : ∃ M', f_M_copy_102 24 M = some M' ∧ CpR 102 24 M M' := by
  obtain ⟨M', e, h⟩ := cpyM (a := 102) (K := 24) (body := b2_M_copy_102 24) (fun i M hi => by
    unfold b2_M_copy_102
    dsimp only
    rw [if_neg (by rw [o_leL _ _ (by decide) (by omega)]; show ¬ 24 ≤ i; omega), if_pos (ixl (by omega) (by omega)), o_addL, if_pos (ixl (show 24 + i < 48 by omega) (by omega)), o_cl i (by omega), o_addR]
    rw [show (Int32.ofNat (OfNat.ofNat 24 + i)).toNatClampNeg = 24 + i from o_cl _ (by show 24 + i < _; omega)]) (fun M => by
    unfold b2_M_copy_102
    rw [if_pos (by show (24 : Int32) ≤ Int32.ofNat 24; decide)]) (by omega) M
  refine ⟨M', ?_, h⟩
  have e' : lp (b2_M_copy_102 24) 10000 ((0 : Int32), M) = some (Int32.ofNat 24, M') := e
  unfold f_M_copy_102
  rw [e', Option.bind_some]
set_option maxRecDepth 20000 in
set_option maxHeartbeats 4000000 in
theorem cpy_103 (M : MS) : ∃ M', f_M_copy_103 1440 M = some M' ∧ CpR 103 1440 M M' := by
  obtain ⟨M', e, h⟩ := cpyM (a := 103) (K := 1440) (body := b2_M_copy_103 1440) (fun i M hi => by
    unfold b2_M_copy_103
    dsimp only
    rw [if_neg (by rw [o_leL _ _ (by decide) (by omega)]; show ¬ 1440 ≤ i; omega), if_pos (ixl (by omega) (by omega)), o_addL, if_pos (ixl (show 1440 + i < 2880 by omega) (by omega)), o_cl i (by omega), o_addR]
    rw [show (Int32.ofNat (OfNat.ofNat 1440 + i)).toNatClampNeg = 1440 + i from o_cl _ (by show 1440 + i < _; omega)]) (fun M => by
    unfold b2_M_copy_103
    rw [if_pos (by show (1440 : Int32) ≤ Int32.ofNat 1440; decide)]) (by omega) M
  refine ⟨M', ?_, h⟩
  have e' : lp (b2_M_copy_103 1440) 10000 ((0 : Int32), M) = some (Int32.ofNat 1440, M') := e
  unfold f_M_copy_103
  rw [e', Option.bind_some]
set_option maxRecDepth 20000 in
set_option maxHeartbeats 4000000 in
theorem cpy_104 (M : MS) : ∃ M', f_M_copy_104 1440 M = some M' ∧ CpR 104 1440 M M' := by
  obtain ⟨M', e, h⟩ := cpyM (a := 104) (K := 1440) (body := b2_M_copy_104 1440) (fun i M hi => by
    unfold b2_M_copy_104
    dsimp only
    rw [if_neg (by rw [o_leL _ _ (by decide) (by omega)]; show ¬ 1440 ≤ i; omega), if_pos (ixl (by omega) (by omega)), o_addL, if_pos (ixl (show 1440 + i < 2880 by omega) (by omega)), o_cl i (by omega), o_addR]
    rw [show (Int32.ofNat (OfNat.ofNat 1440 + i)).toNatClampNeg = 1440 + i from o_cl _ (by show 1440 + i < _; omega)]) (fun M => by
    unfold b2_M_copy_104
    rw [if_pos (by show (1440 : Int32) ≤ Int32.ofNat 1440; decide)]) (by omega) M
  refine ⟨M', ?_, h⟩
  have e' : lp (b2_M_copy_104 1440) 10000 ((0 : Int32), M) = some (Int32.ofNat 1440, M') := e
  unfold f_M_copy_104
  rw [e', Option.bind_some]
set_option maxRecDepth 20000 in
set_option maxHeartbeats 4000000 in
theorem cpy_108 (M : MS) : ∃ M', f_M_copy_108 1440 M = some M' ∧ CpR 108 1440 M M' := by
  obtain ⟨M', e, h⟩ := cpyM (a := 108) (K := 1440) (body := b2_M_copy_108 1440) (fun i M hi => by
    unfold b2_M_copy_108
    dsimp only
    rw [if_neg (by rw [o_leL _ _ (by decide) (by omega)]; show ¬ 1440 ≤ i; omega), if_pos (ixl (by omega) (by omega)), o_addL, if_pos (ixl (show 1440 + i < 2880 by omega) (by omega)), o_cl i (by omega), o_addR]
    rw [show (Int32.ofNat (OfNat.ofNat 1440 + i)).toNatClampNeg = 1440 + i from o_cl _ (by show 1440 + i < _; omega)]) (fun M => by
    unfold b2_M_copy_108
    rw [if_pos (by show (1440 : Int32) ≤ Int32.ofNat 1440; decide)]) (by omega) M
  refine ⟨M', ?_, h⟩
  have e' : lp (b2_M_copy_108 1440) 10000 ((0 : Int32), M) = some (Int32.ofNat 1440, M') := e
  unfold f_M_copy_108
  rw [e', Option.bind_some]
set_option maxRecDepth 20000 in
set_option maxHeartbeats 4000000 in
theorem cpy_105 (M : MS) : ∃ M', f_M_copy_105 24 M = some M' ∧ CpR 105 24 M M' := by
  obtain ⟨M', e, h⟩ := cpyM (a := 105) (K := 24) (body := b2_M_copy_105 24) (fun i M hi => by
    unfold b2_M_copy_105
    dsimp only
    rw [if_neg (by rw [o_leL _ _ (by decide) (by omega)]; show ¬ 24 ≤ i; omega), if_pos (ixl (by omega) (by omega)), o_addL, if_pos (ixl (show 24 + i < 48 by omega) (by omega)), o_cl i (by omega), o_addR]
    rw [show (Int32.ofNat (OfNat.ofNat 24 + i)).toNatClampNeg = 24 + i from o_cl _ (by show 24 + i < _; omega)]) (fun M => by
    unfold b2_M_copy_105
    rw [if_pos (by show (24 : Int32) ≤ Int32.ofNat 24; decide)]) (by omega) M
  refine ⟨M', ?_, h⟩
  have e' : lp (b2_M_copy_105 24) 10000 ((0 : Int32), M) = some (Int32.ofNat 24, M') := e
  unfold f_M_copy_105
  rw [e', Option.bind_some]
set_option maxRecDepth 20000 in
set_option maxHeartbeats 4000000 in
theorem cpy_106 (M : MS) : ∃ M', f_M_copy_106 576 M = some M' ∧ CpR 106 576 M M' := by
  obtain ⟨M', e, h⟩ := cpyM (a := 106) (K := 576) (body := b2_M_copy_106 576) (fun i M hi => by
    unfold b2_M_copy_106
    dsimp only
    rw [if_neg (by rw [o_leL _ _ (by decide) (by omega)]; show ¬ 576 ≤ i; omega), if_pos (ixl (by omega) (by omega)), o_addL, if_pos (ixl (show 576 + i < 1152 by omega) (by omega)), o_cl i (by omega), o_addR]
    rw [show (Int32.ofNat (OfNat.ofNat 576 + i)).toNatClampNeg = 576 + i from o_cl _ (by show 576 + i < _; omega)]) (fun M => by
    unfold b2_M_copy_106
    rw [if_pos (by show (576 : Int32) ≤ Int32.ofNat 576; decide)]) (by omega) M
  refine ⟨M', ?_, h⟩
  have e' : lp (b2_M_copy_106 576) 10000 ((0 : Int32), M) = some (Int32.ofNat 576, M') := e
  unfold f_M_copy_106
  rw [e', Option.bind_some]
set_option maxRecDepth 20000 in
set_option maxHeartbeats 4000000 in
theorem cpy_107 (M : MS) : ∃ M', f_M_copy_107 1 M = some M' ∧ CpR 107 1 M M' := by
  obtain ⟨M', e, h⟩ := cpyM (a := 107) (K := 1) (body := b2_M_copy_107 1) (fun i M hi => by
    unfold b2_M_copy_107
    dsimp only
    rw [if_neg (by rw [o_leL _ _ (by decide) (by omega)]; show ¬ 1 ≤ i; omega), if_pos (ixl (by omega) (by omega)), o_addL, if_pos (ixl (show 1 + i < 2 by omega) (by omega)), o_cl i (by omega), o_addR]
    rw [show (Int32.ofNat (OfNat.ofNat 1 + i)).toNatClampNeg = 1 + i from o_cl _ (by show 1 + i < _; omega)]) (fun M => by
    unfold b2_M_copy_107
    rw [if_pos (by show (1 : Int32) ≤ Int32.ofNat 1; decide)]) (by omega) M
  refine ⟨M', ?_, h⟩
  have e' : lp (b2_M_copy_107 1) 10000 ((0 : Int32), M) = some (Int32.ofNat 1, M') := e
  unfold f_M_copy_107
  rw [e', Option.bind_some]
set_option maxRecDepth 20000 in
set_option maxHeartbeats 4000000 in
/-- the program is taken over -/
theorem beginM_ok {Mr : MS} {kc rc main : Nat} {M : MS} (h : KP Mr kc rc main M 0) (hk : kc ≤ 10) (hr : rc ≤ 24) : ∃ M', f_M_begin M = some M' ∧ KP Mr kc rc main M' 0 ∧ KP Mr kc rc main M' 1 ∧ M'.2 = M.2 ∧ ∀ a, ¬ (95 ≤ a ∧ a ≤ 108) → M'.1 a = M.1 a := by
  obtain ⟨M1, e1, p1, u1, c1⟩ := cpy_95 M
  obtain ⟨M2, e2, p2, u2, c2⟩ := cpy_96 M1
  obtain ⟨M3, e3, p3, u3, c3⟩ := cpy_97 M2
  obtain ⟨M4, e4, p4, u4, c4⟩ := cpy_98 M3
  obtain ⟨M5, e5, p5, u5, c5⟩ := cpy_99 M4
  obtain ⟨M6, e6, p6, u6, c6⟩ := cpy_100 M5
  obtain ⟨M7, e7, p7, u7, c7⟩ := cpy_101 M6
  obtain ⟨M8, e8, p8, u8, c8⟩ := cpy_102 M7
  obtain ⟨M9, e9, p9, u9, c9⟩ := cpy_103 M8
  obtain ⟨M10, e10, p10, u10, c10⟩ := cpy_104 M9
  obtain ⟨M11, e11, p11, u11, c11⟩ := cpy_108 M10
  obtain ⟨M12, e12, p12, u12, c12⟩ := cpy_105 M11
  obtain ⟨M13, e13, p13, u13, c13⟩ := cpy_106 M12
  obtain ⟨M14, e14, p14, u14, c14⟩ := cpy_107 M13
  have r95 : ∀ i, i < 10 → M14.1 95 i = M.1 95 i ∧ M14.1 95 (10 + i) = M.1 95 i := by
    intro i hi
    have q := c1 i hi
    rw [u14 95 (by omega), u13 95 (by omega), u12 95 (by omega), u11 95 (by omega), u10 95 (by omega), u9 95 (by omega), u8 95 (by omega), u7 95 (by omega), u6 95 (by omega), u5 95 (by omega), u4 95 (by omega), u3 95 (by omega), u2 95 (by omega)]
    exact q
  have r96 : ∀ i, i < 10 → M14.1 96 i = M.1 96 i ∧ M14.1 96 (10 + i) = M.1 96 i := by
    intro i hi
    have q := c2 i hi
    rw [u1 96 (by omega)] at q
    rw [u14 96 (by omega), u13 96 (by omega), u12 96 (by omega), u11 96 (by omega), u10 96 (by omega), u9 96 (by omega), u8 96 (by omega), u7 96 (by omega), u6 96 (by omega), u5 96 (by omega), u4 96 (by omega), u3 96 (by omega)]
    exact q
  have r97 : ∀ i, i < 10 → M14.1 97 i = M.1 97 i ∧ M14.1 97 (10 + i) = M.1 97 i := by
    intro i hi
    have q := c3 i hi
    rw [u2 97 (by omega), u1 97 (by omega)] at q
    rw [u14 97 (by omega), u13 97 (by omega), u12 97 (by omega), u11 97 (by omega), u10 97 (by omega), u9 97 (by omega), u8 97 (by omega), u7 97 (by omega), u6 97 (by omega), u5 97 (by omega), u4 97 (by omega)]
    exact q
  have r98 : ∀ i, i < 80 → M14.1 98 i = M.1 98 i ∧ M14.1 98 (80 + i) = M.1 98 i := by
    intro i hi
    have q := c4 i hi
    rw [u3 98 (by omega), u2 98 (by omega), u1 98 (by omega)] at q
    rw [u14 98 (by omega), u13 98 (by omega), u12 98 (by omega), u11 98 (by omega), u10 98 (by omega), u9 98 (by omega), u8 98 (by omega), u7 98 (by omega), u6 98 (by omega), u5 98 (by omega)]
    exact q
  have r99 : ∀ i, i < 24 → M14.1 99 i = M.1 99 i ∧ M14.1 99 (24 + i) = M.1 99 i := by
    intro i hi
    have q := c5 i hi
    rw [u4 99 (by omega), u3 99 (by omega), u2 99 (by omega), u1 99 (by omega)] at q
    rw [u14 99 (by omega), u13 99 (by omega), u12 99 (by omega), u11 99 (by omega), u10 99 (by omega), u9 99 (by omega), u8 99 (by omega), u7 99 (by omega), u6 99 (by omega)]
    exact q
  have r100 : ∀ i, i < 24 → M14.1 100 i = M.1 100 i ∧ M14.1 100 (24 + i) = M.1 100 i := by
    intro i hi
    have q := c6 i hi
    rw [u5 100 (by omega), u4 100 (by omega), u3 100 (by omega), u2 100 (by omega), u1 100 (by omega)] at q
    rw [u14 100 (by omega), u13 100 (by omega), u12 100 (by omega), u11 100 (by omega), u10 100 (by omega), u9 100 (by omega), u8 100 (by omega), u7 100 (by omega)]
    exact q
  have r101 : ∀ i, i < 24 → M14.1 101 i = M.1 101 i ∧ M14.1 101 (24 + i) = M.1 101 i := by
    intro i hi
    have q := c7 i hi
    rw [u6 101 (by omega), u5 101 (by omega), u4 101 (by omega), u3 101 (by omega), u2 101 (by omega), u1 101 (by omega)] at q
    rw [u14 101 (by omega), u13 101 (by omega), u12 101 (by omega), u11 101 (by omega), u10 101 (by omega), u9 101 (by omega), u8 101 (by omega)]
    exact q
  have r102 : ∀ i, i < 24 → M14.1 102 i = M.1 102 i ∧ M14.1 102 (24 + i) = M.1 102 i := by
    intro i hi
    have q := c8 i hi
    rw [u7 102 (by omega), u6 102 (by omega), u5 102 (by omega), u4 102 (by omega), u3 102 (by omega), u2 102 (by omega), u1 102 (by omega)] at q
    rw [u14 102 (by omega), u13 102 (by omega), u12 102 (by omega), u11 102 (by omega), u10 102 (by omega), u9 102 (by omega)]
    exact q
  have r103 : ∀ i, i < 1440 → M14.1 103 i = M.1 103 i ∧ M14.1 103 (1440 + i) = M.1 103 i := by
    intro i hi
    have q := c9 i hi
    rw [u8 103 (by omega), u7 103 (by omega), u6 103 (by omega), u5 103 (by omega), u4 103 (by omega), u3 103 (by omega), u2 103 (by omega), u1 103 (by omega)] at q
    rw [u14 103 (by omega), u13 103 (by omega), u12 103 (by omega), u11 103 (by omega), u10 103 (by omega)]
    exact q
  have r104 : ∀ i, i < 1440 → M14.1 104 i = M.1 104 i ∧ M14.1 104 (1440 + i) = M.1 104 i := by
    intro i hi
    have q := c10 i hi
    rw [u9 104 (by omega), u8 104 (by omega), u7 104 (by omega), u6 104 (by omega), u5 104 (by omega), u4 104 (by omega), u3 104 (by omega), u2 104 (by omega), u1 104 (by omega)] at q
    rw [u14 104 (by omega), u13 104 (by omega), u12 104 (by omega), u11 104 (by omega)]
    exact q
  have r108 : ∀ i, i < 1440 → M14.1 108 i = M.1 108 i ∧ M14.1 108 (1440 + i) = M.1 108 i := by
    intro i hi
    have q := c11 i hi
    rw [u10 108 (by omega), u9 108 (by omega), u8 108 (by omega), u7 108 (by omega), u6 108 (by omega), u5 108 (by omega), u4 108 (by omega), u3 108 (by omega), u2 108 (by omega), u1 108 (by omega)] at q
    rw [u14 108 (by omega), u13 108 (by omega), u12 108 (by omega)]
    exact q
  have r105 : ∀ i, i < 24 → M14.1 105 i = M.1 105 i ∧ M14.1 105 (24 + i) = M.1 105 i := by
    intro i hi
    have q := c12 i hi
    rw [u11 105 (by omega), u10 105 (by omega), u9 105 (by omega), u8 105 (by omega), u7 105 (by omega), u6 105 (by omega), u5 105 (by omega), u4 105 (by omega), u3 105 (by omega), u2 105 (by omega), u1 105 (by omega)] at q
    rw [u14 105 (by omega), u13 105 (by omega)]
    exact q
  have r106 : ∀ i, i < 576 → M14.1 106 i = M.1 106 i ∧ M14.1 106 (576 + i) = M.1 106 i := by
    intro i hi
    have q := c13 i hi
    rw [u12 106 (by omega), u11 106 (by omega), u10 106 (by omega), u9 106 (by omega), u8 106 (by omega), u7 106 (by omega), u6 106 (by omega), u5 106 (by omega), u4 106 (by omega), u3 106 (by omega), u2 106 (by omega), u1 106 (by omega)] at q
    rw [u14 106 (by omega)]
    exact q
  have r107 : ∀ i, i < 1 → M14.1 107 i = M.1 107 i ∧ M14.1 107 (1 + i) = M.1 107 i := by
    intro i hi
    have q := c14 i hi
    rw [u13 107 (by omega), u12 107 (by omega), u11 107 (by omega), u10 107 (by omega), u9 107 (by omega), u8 107 (by omega), u7 107 (by omega), u6 107 (by omega), u5 107 (by omega), u4 107 (by omega), u3 107 (by omega), u2 107 (by omega), u1 107 (by omega)] at q
    exact q
  obtain ⟨k1, k2, k3, k4, k5⟩ := h
  refine ⟨M14, ?_, ⟨?_, ?_, ?_, ?_, ?_⟩, ⟨?_, ?_, ?_, ?_, ?_⟩, ?_, ?_⟩
  · unfold f_M_begin
    rw [e1, Option.bind_some, e2, Option.bind_some, e3, Option.bind_some, e4, Option.bind_some, e5, Option.bind_some, e6, Option.bind_some, e7, Option.bind_some, e8, Option.bind_some, e9, Option.bind_some, e10, Option.bind_some, e11, Option.bind_some, e12, Option.bind_some, e13, Option.bind_some, e14]
    rfl
  · intro c hc
    obtain ⟨a1, a2, a3, a4⟩ := k1 c hc
    rw [Nat.mul_zero, Nat.zero_add] at a1 a2 a3
    refine ⟨?_, ?_, ?_, ?_⟩
    · rw [Nat.mul_zero, Nat.zero_add, (r95 c (by omega)).1]; exact a1
    · rw [Nat.mul_zero, Nat.zero_add, (r96 c (by omega)).1]; exact a2
    · rw [Nat.mul_zero, Nat.zero_add, (r97 c (by omega)).1]; exact a3
    · intro n hn
      have := a4 n hn
      rw [Nat.mul_zero, Nat.zero_add] at this ⊢
      rw [(r98 _ (by omega)).1]; exact this
  · intro m hm
    obtain ⟨a1, a2, a3, a4, a5⟩ := k2 m hm
    rw [Nat.mul_zero, Nat.zero_add] at a1 a2 a3 a4 a5
    refine ⟨?_, ?_, ?_, ?_, ?_⟩
    · rw [Nat.mul_zero, Nat.zero_add, (r99 m (by omega)).1]; exact a1
    · rw [Nat.mul_zero, Nat.zero_add, (r100 m (by omega)).1]; exact a2
    · rw [Nat.mul_zero, Nat.zero_add, (r101 m (by omega)).1]; exact a3
    · rw [Nat.mul_zero, Nat.zero_add, (r102 m (by omega)).1]; exact a4
    · rw [Nat.mul_zero, Nat.zero_add, (r105 m (by omega)).1]; exact a5
  · intro k hk
    have := k3 k hk
    rw [Nat.mul_zero, Nat.zero_add] at this ⊢
    rw [(r106 k hk).1]; exact this
  · intro k hk
    obtain ⟨a1, a2, a3⟩ := k4 k hk
    rw [Nat.mul_zero, Nat.zero_add] at a1 a2 a3
    refine ⟨?_, ?_, ?_⟩
    · rw [Nat.mul_zero, Nat.zero_add, (r103 k hk).1]; exact a1
    · rw [Nat.mul_zero, Nat.zero_add, (r104 k hk).1]; exact a2
    · rw [Nat.mul_zero, Nat.zero_add, (r108 k hk).1]; exact a3
  · rw [(r107 0 (by omega)).1]; exact k5
  · intro c hc
    obtain ⟨a1, a2, a3, a4⟩ := k1 c hc
    rw [Nat.mul_zero, Nat.zero_add] at a1 a2 a3
    refine ⟨?_, ?_, ?_, ?_⟩
    · rw [Nat.mul_one, (r95 c (by omega)).2]; exact a1
    · rw [Nat.mul_one, (r96 c (by omega)).2]; exact a2
    · rw [Nat.mul_one, (r97 c (by omega)).2]; exact a3
    · intro n hn
      have := a4 n hn
      rw [Nat.mul_zero, Nat.zero_add] at this
      rw [Nat.mul_one, (r98 _ (by omega)).2]; exact this
  · intro m hm
    obtain ⟨a1, a2, a3, a4, a5⟩ := k2 m hm
    rw [Nat.mul_zero, Nat.zero_add] at a1 a2 a3 a4 a5
    refine ⟨?_, ?_, ?_, ?_, ?_⟩
    · rw [Nat.mul_one, (r99 m (by omega)).2]; exact a1
    · rw [Nat.mul_one, (r100 m (by omega)).2]; exact a2
    · rw [Nat.mul_one, (r101 m (by omega)).2]; exact a3
    · rw [Nat.mul_one, (r102 m (by omega)).2]; exact a4
    · rw [Nat.mul_one, (r105 m (by omega)).2]; exact a5
  · intro k hk
    have := k3 k hk
    rw [Nat.mul_zero, Nat.zero_add] at this
    rw [Nat.mul_one, (r106 k hk).2]; exact this
  · intro k hk
    obtain ⟨a1, a2, a3⟩ := k4 k hk
    rw [Nat.mul_zero, Nat.zero_add] at a1 a2 a3
    refine ⟨?_, ?_, ?_⟩
    · rw [Nat.mul_one, (r103 k hk).2]; exact a1
    · rw [Nat.mul_one, (r104 k hk).2]; exact a2
    · rw [Nat.mul_one, (r108 k hk).2]; exact a3
  · rw [show M14.1 107 1 = M.1 107 0 from (r107 0 (by omega)).2]; exact k5
  · rw [p14, p13, p12, p11, p10, p9, p8, p7, p6, p5, p4, p3, p2, p1]
  · intro a ha
    rw [u14 a (by omega), u13 a (by omega), u12 a (by omega), u11 a (by omega), u10 a (by omega), u9 a (by omega), u8 a (by omega), u7 a (by omega), u6 a (by omega), u5 a (by omega), u4 a (by omega), u3 a (by omega), u2 a (by omega), u1 a (by omega)]
