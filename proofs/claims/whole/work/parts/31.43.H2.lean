/-! H2 -/
set_option maxRecDepth 20000 in
set_option maxHeartbeats 4000000 in
theorem first_ok {X : XS} {M0 M : MS} {T : Nat → Nat} {kc rc m a : Nat} (h : RSc X M0 T kc rc) (ht : TG T) (hsr : MSrc M0 M) (hm : m < rc) (hp : X.2.1 2 m = some a) (h90 : M.1 90 0 = 2) : ∃ rx X' rm M', f_Flow_firstWrong a X = some (rx, X') ∧ f_M_firstWrong (Int32.ofNat m) M = some (rm, M') ∧ Only Fal X X' ∧ MO (Fml m) M M' ∧ ((∃ w, w ≤ 99 ∧ rx = Int32.ofNat w ∧ rm = Int32.ofNat w) ∨ (rx = -1 ∧ rm = -2 ∧ ∃ s tc tk S, s ≤ 60 ∧ M0.1 70 m = Int32.ofNat s ∧ tc ≤ 6 ∧ M0.1 73 m = Int32.ofNat tc ∧ (∃ n, n ≤ 4 ∧ M0.1 66 m = Int32.ofNat n ∧ tk = if M0.1 65 m = -2 then n else n + 1) ∧ FX X' S ∧ FM M' m S ∧ FlowOk M0 kc rc m s tc tk S)) := by
  have hr24 := h.2.1
  have m24 : m < 24 := by omega
  obtain ⟨a', f, ra, rv⟩ := h.2.2.2.2.2 m hm
  have ea : a' = a := by have := ra.1; rw [hp] at this; exact (Option.some.inj this).symm
  subst ea
  obtain ⟨v1, v2, v3, v4, v5, v6, v7, v8, v9, v11, v12, v13, v14, v15, ⟨s, v16, v17, v18⟩, ⟨tc, v19, v20, v21⟩⟩ := rv
  obtain ⟨n, hn, en⟩ := toNle (n := 4) (by omega) v11.1 v11.2
  have x6 : X.1 a' 6 = Int32.ofNat s := v7.trans v17
  have g70 : M.1 70 m = Int32.ofNat s := by rw [hsr.1 70 (by omega) (by omega)]; exact v17
  have im : ixo (Int32.ofNat m) 24 := by rw [o_ixo m 24 (by omega)]; exact m24
  have em : (Int32.ofNat m).toNatClampNeg = m := o_cl m (by omega)
  by_cases s0 : s = 0
  · subst s0
    refine ⟨0, X, 0, M, ?_, ?_, Only.refl X, MO.refl M, Or.inl ⟨0, by omega, rfl, rfl⟩⟩
    · unfold f_Flow_firstWrong
      simp (disch := omega) only [ra.2.1, x6, o_le, o_leL, o_leR, o_lt, o_ltL, o_ltR, o_eq, o_eqL, o_eqR, o_cl, o_add, o_addL, o_addR, o_mul, o_mulL, o_mulR, o_sub, o_subR, o_0le, o_lt0, o_ixo, n1_eq, n1_eq', n1_lt, n1_le, n1_ge, n1_gt, n2_eq, n2_eq', n2_lt, n2_le, n2_ge, n2_gt, ↓reduceIte, ite_self, Nat.reduceEqDiff, Nat.reduceAdd, Nat.reduceMul, Nat.reduceSub, Nat.reduceLT, Nat.reduceLeDiff, Nat.not_lt_zero, Nat.zero_le, if_true, if_false, ite_true, ite_false, true_and, and_true, false_and, and_false, true_implies, false_implies, implies_true, not_true_eq_false, not_false_eq_true, eq_self, true_or, or_true, false_or, or_false, and_self, reduceCtorEq, forall_const]
    · unfold f_M_firstWrong
      simp (disch := omega) only [m24, g70, o_le, o_leL, o_leR, o_lt, o_ltL, o_ltR, o_eq, o_eqL, o_eqR, o_cl, o_add, o_addL, o_addR, o_mul, o_mulL, o_mulR, o_sub, o_subR, o_0le, o_lt0, o_ixo, n1_eq, n1_eq', n1_lt, n1_le, n1_ge, n1_gt, n2_eq, n2_eq', n2_lt, n2_le, n2_ge, n2_gt, ↓reduceIte, ite_self, Nat.reduceEqDiff, Nat.reduceAdd, Nat.reduceMul, Nat.reduceSub, Nat.reduceLT, Nat.reduceLeDiff, Nat.not_lt_zero, Nat.zero_le, if_true, if_false, ite_true, ite_false, true_and, and_true, false_and, and_false, true_implies, false_implies, implies_true, not_true_eq_false, not_false_eq_true, eq_self, true_or, or_true, false_or, or_false, and_self, reduceCtorEq, forall_const]
  have hs0 : 0 < s := by omega
  obtain ⟨bt, et, hbt⟩ := trapsX_ok h hm hp v17 v20 v19
  obtain ⟨rt, ert, hrt⟩ := trapsM_ok (M := M) h hsr hm v17 v20 v19
  have nz : ¬ X.1 a' 6 = 0 := by rw [x6]; simp (disch := omega) only [o_le, o_leL, o_leR, o_lt, o_ltL, o_ltR, o_eq, o_eqL, o_eqR, o_cl, o_add, o_addL, o_addR, o_mul, o_mulL, o_mulR, o_sub, o_subR, o_0le, o_lt0, o_ixo, n1_eq, n1_eq', n1_lt, n1_le, n1_ge, n1_gt, n2_eq, n2_eq', n2_lt, n2_le, n2_ge, n2_gt, ↓reduceIte, ite_self, Nat.reduceEqDiff, Nat.reduceAdd, Nat.reduceMul, Nat.reduceSub, Nat.reduceLT, Nat.reduceLeDiff, Nat.not_lt_zero, Nat.zero_le, if_true, if_false, ite_true, ite_false, true_and, and_true, false_and, and_false, true_implies, false_implies, implies_true, not_true_eq_false, not_false_eq_true, eq_self, true_or, or_true, false_or, or_false, and_self, reduceCtorEq, forall_const]; exact s0
  have nz2 : ¬ M.1 70 (Int32.ofNat m).toNatClampNeg = 0 := by rw [em, g70]; simp (disch := omega) only [o_le, o_leL, o_leR, o_lt, o_ltL, o_ltR, o_eq, o_eqL, o_eqR, o_cl, o_add, o_addL, o_addR, o_mul, o_mulL, o_mulR, o_sub, o_subR, o_0le, o_lt0, o_ixo, n1_eq, n1_eq', n1_lt, n1_le, n1_ge, n1_gt, n2_eq, n2_eq', n2_lt, n2_le, n2_ge, n2_gt, ↓reduceIte, ite_self, Nat.reduceEqDiff, Nat.reduceAdd, Nat.reduceMul, Nat.reduceSub, Nat.reduceLT, Nat.reduceLeDiff, Nat.not_lt_zero, Nat.zero_le, if_true, if_false, ite_true, ite_false, true_and, and_true, false_and, and_false, true_implies, false_implies, implies_true, not_true_eq_false, not_false_eq_true, eq_self, true_or, or_true, false_or, or_false, and_self, reduceCtorEq, forall_const]; exact s0
  by_cases tv : ∀ t, t < tc → TrV M0 kc m s t
  case neg =>
    refine ⟨99, X, 99, M, ?_, ?_, Only.refl X, MO.refl M, Or.inl ⟨99, by omega, rfl, rfl⟩⟩
    · have nb : ¬ bt = true := fun q => tv (hbt.mp q)
      unfold f_Flow_firstWrong
      rw [if_pos ra.2.1, if_pos nz, et]
      simp only [Option.bind_some]
      rw [if_neg nb]
    · rcases hrt with ⟨rfl, _⟩ | ⟨_, q⟩
      · unfold f_M_firstWrong
        rw [if_pos im, if_pos nz2, ert]
        rfl
      · exact absurd q tv
  have to : TrO M0 m s tc (frM M0 m) (ttM M0 m) (hdM M0 m) := trO_of v16 tv
  generalize htk : (if M0.1 65 m = -2 then n else n + 1) = tk
  obtain ⟨X1, e1, o1, w1, f1⟩ := beginX h ht hm hp hn en htk.symm
  obtain ⟨M1, e2, o2, f2⟩ := beginM (M := M) h hsr hm hn en htk.symm v17 v16 hs0
  obtain ⟨t1, t2, t3⟩ := typed01 (M := M0) (kc := kc) (rc := rc) (m := m) (s := s) (tc := tc) (fr := frM M0 m) (tt := ttM M0 m) (hd := hdM M0 m) (lin M0 m tk) hs0
  obtain ⟨res, hl⟩ := looks_ex (kc := kc) (rc := rc) v16 v17 to 839 (S01 (lin M0 m tk)) (by omega) t1 t2
  obtain ⟨vx, X2, e3, o3, x1, x2⟩ := looksX (a := a') h ht hm hp v17 v16 v20 v19 to 839 0 10000 X1 (S01 (lin M0 m tk)) (by omega) (by omega) o1 f1 w1 t1 t2 hl
  have sr1 : MSrc M0 M1 := by
    have q := o2.src (Fml_src m)
    exact ⟨fun a h1 h2 => (q.1 a h1 h2).trans (hsr.1 a h1 h2), q.2.1.trans hsr.2.1, q.2.2.trans hsr.2.2⟩
  have h90' : M1.1 90 0 = 2 := by rw [o2.2 90 0 (by unfold Fml Flm Fcm; omega)]; exact h90
  obtain ⟨vm, M2, e4, o4, y1, y2⟩ := looksM h hm v17 v16 v20 v19 to 839 10000 M1 (S01 (lin M0 m tk)) (by omega) sr1 h90' f2 t1 t2 hl
  have eX : f_Flow_firstWrong a' X = some (X2.1 22 10, X2) := by
    unfold f_Flow_firstWrong
    rw [if_pos ra.2.1, if_pos nz, et]
    simp only [Option.bind_some]
    rw [if_pos (hbt.mpr tv), e1]
    simp only [Option.bind_some]
    have e3' : lp (b27_Flow_firstWrong a') 10000 ((0 : Int32), X1) = some (vx, X2) := e3
    rw [e3']
    rfl
  have eM : f_M_firstWrong (Int32.ofNat m) M = some (vm, M2) := by
    rcases hrt with ⟨_, q⟩ | ⟨⟨v, rfl⟩, _⟩
    · exact absurd tv q
    unfold f_M_firstWrong
    rw [if_pos im, if_pos nz2, ert]
    simp only [Option.bind_some]
    unfold sb
    dsimp only
    have z := e2 (fun x => lp (b312_M_firstWrong (Int32.ofNat m)) 10000 x)
    exact z.trans e4
  refine ⟨_, X2, vm, M2, eX, eM, o3, o2.trans o4, ?_⟩
  cases res with
  | inl w =>
    obtain ⟨q1, q2⟩ := x1 w rfl
    have q3 := y1 w rfl
    refine Or.inl ⟨w, ?_, q1, q3⟩
    have key : ∀ n S, Typed M0 kc rc m s tc (frM M0 m) (ttM M0 m) (hdM M0 m) S → WtSn S → Looks M0 kc rc m s tc (frM M0 m) (ttM M0 m) (hdM M0 m) n S (.inl w) → w ≤ 99 := by
      intro n
      induction n with
      | zero => intro S _ _ hh; cases hh.2
      | succ n ih =>
        intro S hty hwt hh
        rcases hh with ⟨_, q⟩ | ⟨i, e, ⟨w', hr, q⟩ | ⟨S', hr, hh⟩⟩
        · cases q
        · cases q
          obtain ⟨b1, b2, _⟩ := low_some e
          have hi := (hty i (hwt i b2)).1
          rcases hr with ⟨w', _, q, q'⟩ | ⟨S1, _, hr⟩
          · cases q'; omega
          rcases hr with ⟨_, q⟩ | ⟨_, _, q⟩ | ⟨pp, g, hh, l, _, hr⟩
          · cases q; omega
          · cases q; omega
          rcases hr with ⟨j, _, q⟩ | ⟨S2, _, hres⟩
          · have := (posJ j).mp pp
            rw [v17] at this
            obtain ⟨k, hk, e⟩ := (le1_iff (kc := s) (by omega) (odI M0 m i)).mp this
            have : w = (odI M0 m i).toNatClampNeg := Sum.inl.inj q
            rw [this, e, o_cl k (by omega)]
            omega
          · rcases hres with ⟨_, q⟩ | ⟨_, _, q⟩ | ⟨_, e5, ⟨_, q⟩ | ⟨S3, _, q⟩⟩
            · cases q
            · cases q; omega
            · cases q; omega
            · cases q
        · obtain ⟨b1, b2, _⟩ := low_some e
          have hi := (hty i (hwt i b2)).1
          obtain ⟨c1, _, _⟩ := look_typed v16 v17 hi to hty (hwt i b2) b2 hr
          exact ih S' c1 (look_wt v16 v17 hi to hwt hr) hh
    exact key 839 _ t1 t2 hl
  | inr S' =>
    obtain ⟨q1, q2⟩ := x2 S' rfl
    obtain ⟨q3, q4⟩ := y2 S' rfl
    obtain ⟨z1, z2, z3⟩ := looks_end v16 v17 to 839 _ S' t1 t2 hl
    obtain ⟨u1, u2, u3, u4⟩ := z3 0 rfl
    refine Or.inr ⟨q1, q3, s, tc, tk, S', v16, v17, v19, v20, ⟨n, hn, en, htk.symm⟩, q2, q4, hs0, z1, z2, u1, u2, u4, tv⟩
