/-! M4 -/
/-- the wanted classes after one more was wanted -/
def Want (M0 : MS) (kc : Nat) (W0 : Nat → Prop) (M M' : MS) : Prop := MO Rcm M0 M' ∧ (∀ b j, b ≠ 77 → M'.1 b j = M.1 b j) ∧ (∀ c, c < 10 → fm M' 77 c → c < kc) ∧ (∀ c, fm M 77 c → fm M' 77 c) ∧ (∀ c, W0 c → fm M' 77 c) ∧
  (∀ c d, c < kc → fm M' 77 c → M0.1 61 c = Int32.ofNat d → d < kc → fm M' 77 d) ∧ (∀ S : Nat → Prop, (∀ c, c < 10 → fm M 77 c → S c) → (∀ c, W0 c → S c) → (∀ c d, c < kc → S c → M0.1 61 c = Int32.ofNat d → d < kc → S d) → ∀ c, c < 10 → fm M' 77 c → S c)
set_option maxRecDepth 20000 in
set_option maxHeartbeats 4000000 in
theorem wantClass_ok {X : XS} {M0 M : MS} {T : Nat → Nat} {kc rc : Nat} (h : RSc X M0 T kc rc) (ho : MO Rcm M0 M) (hv : ∀ c, c < 10 → fm M 77 c → c < kc) (hc : ∀ c d, c < kc → fm M 77 c → M0.1 61 c = Int32.ofNat d → d < kc → fm M 77 d) (x : Int32) : Wo (f_M_wantClass x M) (fun M' => Want M0 kc (fun c => c < kc ∧ x = Int32.ofNat c) M M') := by
  have k1 := h.1.1
  have e1 := h.1.2.2.1
  have k4 := h.1.2.2.2
  unfold f_M_wantClass
  rw [W_bind]
  by_cases cx : ∃ c, c < kc ∧ x = Int32.ofNat c
  case neg =>
    have sr := ho.src Rcm_src
    have ic := isClassM (M := M) k1 (sr.2.1.trans e1) x
    have b0 : b2_M_wantClass (x, M) = some (.inr (x, M)) := by
      unfold b2_M_wantClass
      have ic' : ¬ f_M_isClass x M = true := by rw [ic]; exact cx
      by_cases h0 : x < 0
      · simp (disch := omega) only [h0, o_le, o_leL, o_leR, o_lt, o_ltL, o_ltR, o_eq, o_eqL, o_eqR, o_cl, o_add, o_addL, o_addR, o_mul, o_mulL, o_mulR, o_sub, o_subR, o_0le, o_lt0, o_ixo, n1_eq, n1_eq', n1_lt, n1_le, n1_ge, n1_gt, n2_eq, n2_eq', n2_lt, n2_le, n2_ge, n2_gt, ↓reduceIte, ite_self, Nat.reduceEqDiff, Nat.reduceAdd, Nat.reduceMul, Nat.reduceSub, Nat.reduceLT, Nat.reduceLeDiff, Nat.not_lt_zero, Nat.zero_le, if_true, if_false, ite_true, ite_false, true_and, and_true, false_and, and_false, true_implies, false_implies, implies_true, not_true_eq_false, not_false_eq_true, eq_self, true_or, or_true, false_or, or_false, and_self, reduceCtorEq, forall_const]
      · simp (disch := omega) only [h0, ic', o_le, o_leL, o_leR, o_lt, o_ltL, o_ltR, o_eq, o_eqL, o_eqR, o_cl, o_add, o_addL, o_addR, o_mul, o_mulL, o_mulR, o_sub, o_subR, o_0le, o_lt0, o_ixo, n1_eq, n1_eq', n1_lt, n1_le, n1_ge, n1_gt, n2_eq, n2_eq', n2_lt, n2_le, n2_ge, n2_gt, ↓reduceIte, ite_self, Nat.reduceEqDiff, Nat.reduceAdd, Nat.reduceMul, Nat.reduceSub, Nat.reduceLT, Nat.reduceLeDiff, Nat.not_lt_zero, Nat.zero_le, if_true, if_false, ite_true, ite_false, true_and, and_true, false_and, and_false, true_implies, false_implies, implies_true, not_true_eq_false, not_false_eq_true, eq_self, true_or, or_true, false_or, or_false, and_self, reduceCtorEq, forall_const]
    rw [show lp b2_M_wantClass 10000 (x, M) = some (x, M) from lp_inr b0, W_some, W_some]
    exact ⟨ho, fun _ _ _ => rfl, hv, fun _ h => h, fun c hc => absurd ⟨c, hc⟩ cx, hc, fun S h1 _ _ c hc hf => h1 c hc hf⟩
  obtain ⟨c0, hc0, rfl⟩ := cx
  have w : Wo (lp b2_M_wantClass 10000 (Int32.ofNat c0, M)) (fun p => Want M0 kc (fun c => c < kc ∧ Int32.ofNat c0 = Int32.ofNat c) M p.2) := by
    refine W_lp (fun p => (p.1 = -1 ∨ ∃ c, c < kc ∧ p.1 = Int32.ofNat c) ∧ MO Rcm M0 p.2 ∧ (∀ b j, b ≠ 77 → p.2.1 b j = M.1 b j) ∧ (∀ c, c < 10 → fm p.2 77 c → c < kc) ∧ (∀ c, fm M 77 c → fm p.2 77 c) ∧ (fm p.2 77 c0 ∨ p.1 = Int32.ofNat c0) ∧
        (∀ c d, c < kc → fm p.2 77 c → M0.1 61 c = Int32.ofNat d → d < kc → fm p.2 77 d ∨ p.1 = Int32.ofNat d) ∧ (∀ S : Nat → Prop, (∀ c, c < 10 → fm M 77 c → S c) → S c0 → (∀ c d, c < kc → S c → M0.1 61 c = Int32.ofNat d → d < kc → S d) → (∀ c, c < 10 → fm p.2 77 c → S c) ∧ (∀ c, c < kc → p.1 = Int32.ofNat c → S c))) (fun p => (p.1 + 1).toNatClampNeg) ?_ 10000 _ ⟨Or.inr ⟨c0, hc0, rfl⟩, ho, fun _ _ _ => rfl, hv, fun _ h => h, Or.inr rfl, fun c d h1 h2 h3 h4 => Or.inl (hc c d h1 h2 h3 h4), ?_⟩ (by simp (disch := omega) only [o_le, o_leL, o_leR, o_lt, o_ltL, o_ltR, o_eq, o_eqL, o_eqR, o_cl, o_add, o_addL, o_addR, o_mul, o_mulL, o_mulR, o_sub, o_subR, o_0le, o_lt0, o_ixo, n1_eq, n1_eq', n1_lt, n1_le, n1_ge, n1_gt, n2_eq, n2_eq', n2_lt, n2_le, n2_ge, n2_gt, ↓reduceIte, ite_self, Nat.reduceEqDiff, Nat.reduceAdd, Nat.reduceMul, Nat.reduceSub, Nat.reduceLT, Nat.reduceLeDiff, Nat.not_lt_zero, Nat.zero_le, if_true, if_false, ite_true, ite_false, true_and, and_true, false_and, and_false, true_implies, false_implies, implies_true, not_true_eq_false, not_false_eq_true, eq_self, true_or, or_true, false_or, or_false, and_self, reduceCtorEq, forall_const]; omega)
    · intro p ⟨py, po, pb, pv, pmono, p0, pc, pS⟩
      refine Wo.cps (fun Q hQ => ?_)
      unfold b2_M_wantClass
      rcases py with py | ⟨c, hck, py⟩
      · have m1 : (-1 : Int32) < 0 := by decide
        simp (disch := omega) only [W_some, W_none, W_bind, W_ite, W_ocz, W_lt, py, m1, o_le, o_leL, o_leR, o_lt, o_ltL, o_ltR, o_eq, o_eqL, o_eqR, o_cl, o_add, o_addL, o_addR, o_mul, o_mulL, o_mulR, o_sub, o_subR, o_0le, o_lt0, o_ixo, n1_eq, n1_eq', n1_lt, n1_le, n1_ge, n1_gt, n2_eq, n2_eq', n2_lt, n2_le, n2_ge, n2_gt, ↓reduceIte, ite_self, Nat.reduceEqDiff, Nat.reduceAdd, Nat.reduceMul, Nat.reduceSub, Nat.reduceLT, Nat.reduceLeDiff, Nat.not_lt_zero, Nat.zero_le, if_true, if_false, ite_true, ite_false, true_and, and_true, false_and, and_false, true_implies, false_implies, implies_true, not_true_eq_false, not_false_eq_true, eq_self, true_or, or_true, false_or, or_false, and_self, reduceCtorEq, forall_const]
        refine hQ _ ⟨po, pb, pv, pmono, ?_, ?_, ?_⟩
        · rintro c ⟨h1, h2⟩
          rw [o_eq _ _ (by omega) (by omega)] at h2
          subst h2
          rcases p0 with p0 | p0
          · exact p0
          · rw [py, n1_eq' c0 (by omega)] at p0
            exact p0.elim
        · intro c d h1 h2 h3 h4
          rcases pc c d h1 h2 h3 h4 with q | q
          · exact q
          · rw [py, n1_eq' d (by omega)] at q
            exact q.elim
        · intro S s1 s2 s3
          exact (pS S s1 (s2 c0 ⟨hc0, rfl⟩) s3).1
      · have sr := po.src Rcm_src
        have ic : f_M_isClass (Int32.ofNat c) p.2 = true := by
          rw [isClassM (M := p.2) k1 (sr.2.1.trans e1)]
          exact ⟨c, hck, rfl⟩
        have c10 : c < 10 := by omega
        have g61 : p.2.1 61 c = M0.1 61 c := by rw [sr.1 61 (by omega) (by omega)]
        simp (disch := omega) only [W_some, W_none, W_bind, W_ite, W_ocz, W_lt, py, ic, c10, xTw, xLw, xAw, xTp, xLp, xAp, xTc, xLc, xAc, xAn, xTn, xLn, xw1, xw2, xp1, xp2, xp3, mw1, mw2, xn1, xn2, xc1, xc2, g61, o_le, o_leL, o_leR, o_lt, o_ltL, o_ltR, o_eq, o_eqL, o_eqR, o_cl, o_add, o_addL, o_addR, o_mul, o_mulL, o_mulR, o_sub, o_subR, o_0le, o_lt0, o_ixo, n1_eq, n1_eq', n1_lt, n1_le, n1_ge, n1_gt, n2_eq, n2_eq', n2_lt, n2_le, n2_ge, n2_gt, ↓reduceIte, ite_self, Nat.reduceEqDiff, Nat.reduceAdd, Nat.reduceMul, Nat.reduceSub, Nat.reduceLT, Nat.reduceLeDiff, Nat.not_lt_zero, Nat.zero_le, if_true, if_false, ite_true, ite_false, true_and, and_true, false_and, and_false, true_implies, false_implies, implies_true, not_true_eq_false, not_false_eq_true, eq_self, true_or, or_true, false_or, or_false, and_self, reduceCtorEq, forall_const]
        obtain ⟨_, _, _, w4, _⟩ := k4 c hck
        have ff : ∀ b j, fm (mw p.2 77 c 1) b j ↔ fm p.2 b j ∨ (b = 77 ∧ j = c) := fun b j => fm_set b j
        refine hQ _ ⟨⟨?_, po.mw (by unfold Rcm; omega) 1, ?_, ?_, fun d hf => (ff _ _).mpr (Or.inl (pmono d hf)), ?_, ?_, ?_⟩, ?_⟩
        · rcases w4 with w4 | ⟨d, hd, w4⟩
          · exact Or.inl w4
          · exact Or.inr ⟨d, by omega, w4⟩
        · intro b j hb
          rw [mw1, if_neg (fun q => hb q.1)]
          exact pb b j hb
        · intro d hd hf
          rcases (ff _ _).mp hf with hf | ⟨_, e⟩
          · exact pv d hd hf
          · omega
        · rcases p0 with p0 | p0
          · exact Or.inl ((ff _ _).mpr (Or.inl p0))
          · rw [py, o_eq _ _ (by omega) (by omega)] at p0
            exact Or.inl ((ff _ _).mpr (Or.inr ⟨rfl, p0.symm⟩))
        · intro e d h1 h2 h3 h4
          by_cases ee : e = c
          · subst ee
            exact Or.inr h3
          · have h2' : fm p.2 77 e := by
              rcases (ff _ _).mp h2 with h2 | ⟨_, q⟩
              · exact h2
              · exact absurd q ee
            rcases pc e d h1 h2' h3 h4 with q | q
            · exact Or.inl ((ff _ _).mpr (Or.inl q))
            · rw [py, o_eq _ _ (by omega) (by omega)] at q
              exact Or.inl ((ff _ _).mpr (Or.inr ⟨rfl, q.symm⟩))
        · intro S s1 s2 s3
          obtain ⟨t1, t2⟩ := pS S s1 s2 s3
          have sc : S c := t2 c hck py
          refine ⟨?_, ?_⟩
          · intro e he hf
            rcases (ff _ _).mp hf with hf | ⟨_, q⟩
            · exact t1 e he hf
            · subst q; exact sc
          · intro e he hf
            exact s3 c e hck sc hf he
        · rw [py]
          rcases w4 with w4 | ⟨d, hd, w4⟩
          · rw [w4]
            simp (disch := omega) only [o_le, o_leL, o_leR, o_lt, o_ltL, o_ltR, o_eq, o_eqL, o_eqR, o_cl, o_add, o_addL, o_addR, o_mul, o_mulL, o_mulR, o_sub, o_subR, o_0le, o_lt0, o_ixo, n1_eq, n1_eq', n1_lt, n1_le, n1_ge, n1_gt, n2_eq, n2_eq', n2_lt, n2_le, n2_ge, n2_gt, ↓reduceIte, ite_self, Nat.reduceEqDiff, Nat.reduceAdd, Nat.reduceMul, Nat.reduceSub, Nat.reduceLT, Nat.reduceLeDiff, Nat.not_lt_zero, Nat.zero_le, if_true, if_false, ite_true, ite_false, true_and, and_true, false_and, and_false, true_implies, false_implies, implies_true, not_true_eq_false, not_false_eq_true, eq_self, true_or, or_true, false_or, or_false, and_self, reduceCtorEq, forall_const]
            show ((-1 : Int32) + 1).toNatClampNeg < c + 1
            have : ((-1 : Int32) + 1).toNatClampNeg = 0 := by decide
            omega
          · rw [w4]
            simp (disch := omega) only [o_le, o_leL, o_leR, o_lt, o_ltL, o_ltR, o_eq, o_eqL, o_eqR, o_cl, o_add, o_addL, o_addR, o_mul, o_mulL, o_mulR, o_sub, o_subR, o_0le, o_lt0, o_ixo, n1_eq, n1_eq', n1_lt, n1_le, n1_ge, n1_gt, n2_eq, n2_eq', n2_lt, n2_le, n2_ge, n2_gt, ↓reduceIte, ite_self, Nat.reduceEqDiff, Nat.reduceAdd, Nat.reduceMul, Nat.reduceSub, Nat.reduceLT, Nat.reduceLeDiff, Nat.not_lt_zero, Nat.zero_le, if_true, if_false, ite_true, ite_false, true_and, and_true, false_and, and_false, true_implies, false_implies, implies_true, not_true_eq_false, not_false_eq_true, eq_self, true_or, or_true, false_or, or_false, and_self, reduceCtorEq, forall_const]
            omega
    · intro S s1 s2 _
      refine ⟨s1, ?_⟩
      intro c hck e
      have e' : Int32.ofNat c0 = Int32.ofNat c := e
      rw [o_eq _ _ (by omega) (by omega)] at e'
      subst e'
      exact s2
  refine Wo.mono w ?_
  intro p hp
  rw [W_some]
  exact hp
set_option maxRecDepth 20000 in
set_option maxHeartbeats 4000000 in
theorem Want.trans {M0 M N K : MS} {kc : Nat} {A B : Nat → Prop} (h : Want M0 kc A M N) (k : Want M0 kc B N K) : Want M0 kc (fun c => A c ∨ B c) M K := by
  obtain ⟨h1, h2, h3, h4, h5, h6, h7⟩ := h
  obtain ⟨k1, k2, k3, k4, k5, k6, k7⟩ := k
  refine ⟨k1, fun b j hb => (k2 b j hb).trans (h2 b j hb), k3, fun c hc => k4 c (h4 c hc), ?_, k6, ?_⟩
  · rintro c (hc | hc)
    · exact k4 c (h5 c hc)
    · exact k5 c hc
  · intro S s1 s2 s3
    exact k7 S (h7 S s1 (fun c hc => s2 c (Or.inl hc)) s3) (fun c hc => s2 c (Or.inr hc)) s3
set_option maxRecDepth 20000 in
set_option maxHeartbeats 4000000 in
theorem Want.congr {M0 M N : MS} {kc : Nat} {A B : Nat → Prop} (h : Want M0 kc A M N) (e : ∀ c, A c ↔ B c) : Want M0 kc B M N := by
  have : A = B := funext fun c => propext (e c)
  subst this
  exact h
set_option maxRecDepth 20000 in
set_option maxHeartbeats 4000000 in
theorem wantAll_ok {X : XS} {M0 M : MS} {T : Nat → Nat} {kc rc m : Nat} (h : RSc X M0 T kc rc) (hm : m < rc) (ho : MO Rcm M0 M) (hv : ∀ c, c < 10 → fm M 77 c → c < kc) (hc : ∀ c d, c < kc → fm M 77 c → M0.1 61 c = Int32.ofNat d → d < kc → fm M 77 d) : Wo (f_M_wantAll (Int32.ofNat m) M) (fun M' => Want M0 kc (fun c => aK M0 kc m c ∨ (¬ M0.1 65 m = -2 ∧ M0.1 64 m = Int32.ofNat c ∧ c < kc)) M M') := by
  have hr := h.2.1
  have k1 := h.1.1
  have e1 := h.1.2.2.1
  obtain ⟨a, f, ra, rv⟩ := h.2.2.2.2.2 m hm
  obtain ⟨v1, v2, v3, v4, v5, v6, v7, v8, v9, v11, v12, v13, v14, v15, ⟨s, v16, v17, v18⟩, ⟨s2, v19, v20, v21⟩⟩ := rv
  have hz : sz M0 m = s := by unfold sz; rw [v17, o_cl s (by omega)]
  have m24 : m < 24 := by omega
  unfold f_M_wantAll
  rw [W_bind]
  have w1 : Wo (lp (b2_M_wantAll (Int32.ofNat m)) 10000 ((0 : Int32), M)) (fun p => Want M0 kc (fun c => ∃ i, i < s ∧ gK kc (M0.1 71 (60 * m + i)) (M0.1 72 (60 * m + i)) c) M p.2) := by
    refine W_lp (fun p => ∃ k, k ≤ s ∧ p.1 = Int32.ofNat k ∧ Want M0 kc (fun c => ∃ i, i < k ∧ gK kc (M0.1 71 (60 * m + i)) (M0.1 72 (60 * m + i)) c) M p.2) (fun p => s - p.1.toNatClampNeg) ?_ 10000 _ ⟨0, Nat.zero_le _, rfl, ho, fun _ _ _ => rfl, hv, fun _ h => h, fun c ⟨i, hi, _⟩ => absurd hi (Nat.not_lt_zero i), hc, fun S h1 _ _ c hc hf => h1 c hc hf⟩ (by show s - 0 < 10000; omega)
    intro p ⟨k, hk, ep, pw⟩
    refine Wo.cps (fun Q hQ => ?_)
    have sr := pw.1.src Rcm_src
    have g71 : p.2.1 71 = M0.1 71 := sr.1 71 (by omega) (by omega)
    have g72 : p.2.1 72 = M0.1 72 := sr.1 72 (by omega) (by omega)
    have g70 : p.2.1 70 m = Int32.ofNat s := by rw [sr.1 70 (by omega) (by omega)]; exact v17
    by_cases hl : k < s
    case neg =>
      have ek : k = s := by omega
      subst ek
      unfold b2_M_wantAll
      simp (disch := omega) only [W_some, W_none, W_bind, W_ite, W_ocz, W_lt, ep, m24, g70, Nat.le_refl, o_le, o_leL, o_leR, o_lt, o_ltL, o_ltR, o_eq, o_eqL, o_eqR, o_cl, o_add, o_addL, o_addR, o_mul, o_mulL, o_mulR, o_sub, o_subR, o_0le, o_lt0, o_ixo, n1_eq, n1_eq', n1_lt, n1_le, n1_ge, n1_gt, n2_eq, n2_eq', n2_lt, n2_le, n2_ge, n2_gt, ↓reduceIte, ite_self, Nat.reduceEqDiff, Nat.reduceAdd, Nat.reduceMul, Nat.reduceSub, Nat.reduceLT, Nat.reduceLeDiff, Nat.not_lt_zero, Nat.zero_le, if_true, if_false, ite_true, ite_false, true_and, and_true, false_and, and_false, true_implies, false_implies, implies_true, not_true_eq_false, not_false_eq_true, eq_self, true_or, or_true, false_or, or_false, and_self, reduceCtorEq, forall_const]
      exact hQ _ pw
    have q1 : ¬ s ≤ k := by omega
    have q2 : 60 * m + k < 1440 := by omega
    have next : ∀ N, Want M0 kc (fun c => gK kc (M0.1 71 (60 * m + k)) (M0.1 72 (60 * m + k)) c) p.2 N → Q (.inl (Int32.ofNat (k + 1), N)) := by
      intro N hN
      refine hQ _ ⟨⟨k + 1, by omega, rfl, (pw.trans hN).congr (fun c => ex_succ.symm)⟩, by simp (disch := omega) only [ep, o_le, o_leL, o_leR, o_lt, o_ltL, o_ltR, o_eq, o_eqL, o_eqR, o_cl, o_add, o_addL, o_addR, o_mul, o_mulL, o_mulR, o_sub, o_subR, o_0le, o_lt0, o_ixo, n1_eq, n1_eq', n1_lt, n1_le, n1_ge, n1_gt, n2_eq, n2_eq', n2_lt, n2_le, n2_ge, n2_gt, ↓reduceIte, ite_self, Nat.reduceEqDiff, Nat.reduceAdd, Nat.reduceMul, Nat.reduceSub, Nat.reduceLT, Nat.reduceLeDiff, Nat.not_lt_zero, Nat.zero_le, if_true, if_false, ite_true, ite_false, true_and, and_true, false_and, and_false, true_implies, false_implies, implies_true, not_true_eq_false, not_false_eq_true, eq_self, true_or, or_true, false_or, or_false, and_self, reduceCtorEq, forall_const]; omega⟩
    have same : (∀ c, ¬ gK kc (M0.1 71 (60 * m + k)) (M0.1 72 (60 * m + k)) c) → Q (.inl (Int32.ofNat (k + 1), p.2)) := by
      intro hn
      exact next p.2 ⟨pw.1, fun _ _ _ => rfl, pw.2.2.1, fun _ h => h, fun c hc => absurd hc (hn c), pw.2.2.2.2.2.1, fun S h1 _ _ c hc hf => h1 c hc hf⟩
    unfold b2_M_wantAll
    unfold gK at next same
    generalize hop : M0.1 71 (60 * m + k) = op at *
    generalize hod : M0.1 72 (60 * m + k) = od at *
    have r1 : p.2.1 71 (60 * m + k) = op := by rw [g71]; exact hop
    have r2 : p.2.1 72 (60 * m + k) = od := by rw [g72]; exact hod
    by_cases c26 : op = 26
    · obtain ⟨N, eN, hN⟩ := wantClass_ok h pw.1 pw.2.2.1 pw.2.2.2.2.2.1 od
      have n27 : ¬ ((27 : Int32) ≤ 26 ∧ (26 : Int32) ≤ 30) := by decide
      subst c26
      simp (disch := omega) only [W_some, W_none, W_bind, W_ite, W_ocz, W_lt, ep, m24, g70, q1, q2, r1, r2, eN, o_le, o_leL, o_leR, o_lt, o_ltL, o_ltR, o_eq, o_eqL, o_eqR, o_cl, o_add, o_addL, o_addR, o_mul, o_mulL, o_mulR, o_sub, o_subR, o_0le, o_lt0, o_ixo, n1_eq, n1_eq', n1_lt, n1_le, n1_ge, n1_gt, n2_eq, n2_eq', n2_lt, n2_le, n2_ge, n2_gt, ↓reduceIte, ite_self, Nat.reduceEqDiff, Nat.reduceAdd, Nat.reduceMul, Nat.reduceSub, Nat.reduceLT, Nat.reduceLeDiff, Nat.not_lt_zero, Nat.zero_le, if_true, if_false, ite_true, ite_false, true_and, and_true, false_and, and_false, true_implies, false_implies, implies_true, not_true_eq_false, not_false_eq_true, eq_self, true_or, or_true, false_or, or_false, and_self, reduceCtorEq, forall_const]
      exact next N (hN.congr (fun c => by grind))
    by_cases c44 : op = 44
    · obtain ⟨N, eN, hN⟩ := wantClass_ok h pw.1 pw.2.2.1 pw.2.2.2.2.2.1 od
      have n27 : ¬ ((27 : Int32) ≤ 44 ∧ (44 : Int32) ≤ 30) := by decide
      subst c44
      simp (disch := omega) only [W_some, W_none, W_bind, W_ite, W_ocz, W_lt, ep, m24, g70, q1, q2, r1, r2, c26, eN, o_le, o_leL, o_leR, o_lt, o_ltL, o_ltR, o_eq, o_eqL, o_eqR, o_cl, o_add, o_addL, o_addR, o_mul, o_mulL, o_mulR, o_sub, o_subR, o_0le, o_lt0, o_ixo, n1_eq, n1_eq', n1_lt, n1_le, n1_ge, n1_gt, n2_eq, n2_eq', n2_lt, n2_le, n2_ge, n2_gt, ↓reduceIte, ite_self, Nat.reduceEqDiff, Nat.reduceAdd, Nat.reduceMul, Nat.reduceSub, Nat.reduceLT, Nat.reduceLeDiff, Nat.not_lt_zero, Nat.zero_le, if_true, if_false, ite_true, ite_false, true_and, and_true, false_and, and_false, true_implies, false_implies, implies_true, not_true_eq_false, not_false_eq_true, eq_self, true_or, or_true, false_or, or_false, and_self, reduceCtorEq, forall_const]
      exact next N (hN.congr (fun c => by grind))
    by_cases cf : 27 ≤ op ∧ op ≤ 30
    · by_cases h0 : od < 0
      · simp (disch := omega) only [W_some, W_none, W_bind, W_ite, W_ocz, W_lt, ep, m24, g70, q1, q2, r1, r2, c26, c44, cf, h0, o_le, o_leL, o_leR, o_lt, o_ltL, o_ltR, o_eq, o_eqL, o_eqR, o_cl, o_add, o_addL, o_addR, o_mul, o_mulL, o_mulR, o_sub, o_subR, o_0le, o_lt0, o_ixo, n1_eq, n1_eq', n1_lt, n1_le, n1_ge, n1_gt, n2_eq, n2_eq', n2_lt, n2_le, n2_ge, n2_gt, ↓reduceIte, ite_self, Nat.reduceEqDiff, Nat.reduceAdd, Nat.reduceMul, Nat.reduceSub, Nat.reduceLT, Nat.reduceLeDiff, Nat.not_lt_zero, Nat.zero_le, if_true, if_false, ite_true, ite_false, true_and, and_true, false_and, and_false, true_implies, false_implies, implies_true, not_true_eq_false, not_false_eq_true, eq_self, true_or, or_true, false_or, or_false, and_self, reduceCtorEq, forall_const]
        refine same ?_
        rintro c ⟨_, ⟨q | q, _⟩ | ⟨_, q, _⟩⟩
        · exact c26 q
        · exact c44 q
        · exact absurd q (Int32.not_le.mpr h0)
      · obtain ⟨N, eN, hN⟩ := wantClass_ok h pw.1 pw.2.2.1 pw.2.2.2.2.2.1 (od / 8)
        have h0' := Int32.not_lt.mp h0
        simp (disch := omega) only [W_some, W_none, W_bind, W_ite, W_ocz, W_lt, ep, m24, g70, q1, q2, r1, r2, c26, c44, cf, h0, eN, o_le, o_leL, o_leR, o_lt, o_ltL, o_ltR, o_eq, o_eqL, o_eqR, o_cl, o_add, o_addL, o_addR, o_mul, o_mulL, o_mulR, o_sub, o_subR, o_0le, o_lt0, o_ixo, n1_eq, n1_eq', n1_lt, n1_le, n1_ge, n1_gt, n2_eq, n2_eq', n2_lt, n2_le, n2_ge, n2_gt, ↓reduceIte, ite_self, Nat.reduceEqDiff, Nat.reduceAdd, Nat.reduceMul, Nat.reduceSub, Nat.reduceLT, Nat.reduceLeDiff, Nat.not_lt_zero, Nat.zero_le, if_true, if_false, ite_true, ite_false, true_and, and_true, false_and, and_false, true_implies, false_implies, implies_true, not_true_eq_false, not_false_eq_true, eq_self, true_or, or_true, false_or, or_false, and_self, reduceCtorEq, forall_const]
        exact next N (hN.congr (fun c => by grind))
    · simp (disch := omega) only [W_some, W_none, W_bind, W_ite, W_ocz, W_lt, ep, m24, g70, q1, q2, r1, r2, c26, c44, cf, o_le, o_leL, o_leR, o_lt, o_ltL, o_ltR, o_eq, o_eqL, o_eqR, o_cl, o_add, o_addL, o_addR, o_mul, o_mulL, o_mulR, o_sub, o_subR, o_0le, o_lt0, o_ixo, n1_eq, n1_eq', n1_lt, n1_le, n1_ge, n1_gt, n2_eq, n2_eq', n2_lt, n2_le, n2_ge, n2_gt, ↓reduceIte, ite_self, Nat.reduceEqDiff, Nat.reduceAdd, Nat.reduceMul, Nat.reduceSub, Nat.reduceLT, Nat.reduceLeDiff, Nat.not_lt_zero, Nat.zero_le, if_true, if_false, ite_true, ite_false, true_and, and_true, false_and, and_false, true_implies, false_implies, implies_true, not_true_eq_false, not_false_eq_true, eq_self, true_or, or_true, false_or, or_false, and_self, reduceCtorEq, forall_const]
      refine same ?_
      rintro c ⟨_, ⟨q | q, _⟩ | ⟨q, _⟩⟩
      · exact c26 q
      · exact c44 q
      · exact cf q
  refine Wo.mono w1 ?_
  intro p pw
  rw [W_bind]
  have w2 : Wo (lp (b91_M_wantAll (Int32.ofNat m)) 10000 ((0 : Int32), p.2)) (fun q => Want M0 kc (fun c => (∃ i, i < s ∧ gK kc (M0.1 71 (60 * m + i)) (M0.1 72 (60 * m + i)) c) ∨ ∃ i, i < s2 ∧ c < kc ∧ M0.1 74 (24 * m + 4 * i + 3) = Int32.ofNat c) M q.2) := by
    refine W_lp (fun q => ∃ k, k ≤ s2 ∧ q.1 = Int32.ofNat k ∧ Want M0 kc (fun c => (∃ i, i < s ∧ gK kc (M0.1 71 (60 * m + i)) (M0.1 72 (60 * m + i)) c) ∨ ∃ i, i < k ∧ c < kc ∧ M0.1 74 (24 * m + 4 * i + 3) = Int32.ofNat c) M q.2) (fun q => s2 - q.1.toNatClampNeg) ?_ 10000 _ ⟨0, Nat.zero_le _, rfl, pw.congr (fun c => ⟨Or.inl, fun h => h.elim id (fun ⟨i, hi, _⟩ => absurd hi (Nat.not_lt_zero i))⟩)⟩ (by show s2 - 0 < 10000; omega)
    intro q ⟨k, hk, eq, qw⟩
    refine Wo.cps (fun Q hQ => ?_)
    have sr := qw.1.src Rcm_src
    have g74 : q.2.1 74 = M0.1 74 := sr.1 74 (by omega) (by omega)
    have g73 : q.2.1 73 m = Int32.ofNat s2 := by rw [sr.1 73 (by omega) (by omega)]; exact v20
    unfold b91_M_wantAll
    by_cases hl : k < s2
    case neg =>
      have ek : k = s2 := by omega
      subst ek
      simp (disch := omega) only [W_some, W_none, W_bind, W_ite, W_ocz, W_lt, eq, m24, g73, Nat.le_refl, o_le, o_leL, o_leR, o_lt, o_ltL, o_ltR, o_eq, o_eqL, o_eqR, o_cl, o_add, o_addL, o_addR, o_mul, o_mulL, o_mulR, o_sub, o_subR, o_0le, o_lt0, o_ixo, n1_eq, n1_eq', n1_lt, n1_le, n1_ge, n1_gt, n2_eq, n2_eq', n2_lt, n2_le, n2_ge, n2_gt, ↓reduceIte, ite_self, Nat.reduceEqDiff, Nat.reduceAdd, Nat.reduceMul, Nat.reduceSub, Nat.reduceLT, Nat.reduceLeDiff, Nat.not_lt_zero, Nat.zero_le, if_true, if_false, ite_true, ite_false, true_and, and_true, false_and, and_false, true_implies, false_implies, implies_true, not_true_eq_false, not_false_eq_true, eq_self, true_or, or_true, false_or, or_false, and_self, reduceCtorEq, forall_const]
      exact hQ _ qw
    have q1 : ¬ s2 ≤ k := by omega
    have q2 : 24 * m + 4 * k + 3 < 576 := by omega
    obtain ⟨N, eN, hN⟩ := wantClass_ok h qw.1 qw.2.2.1 qw.2.2.2.2.2.1 (M0.1 74 (24 * m + 4 * k + 3))
    simp (disch := omega) only [W_some, W_none, W_bind, W_ite, W_ocz, W_lt, eq, m24, g73, q1, q2, g74, eN, o_le, o_leL, o_leR, o_lt, o_ltL, o_ltR, o_eq, o_eqL, o_eqR, o_cl, o_add, o_addL, o_addR, o_mul, o_mulL, o_mulR, o_sub, o_subR, o_0le, o_lt0, o_ixo, n1_eq, n1_eq', n1_lt, n1_le, n1_ge, n1_gt, n2_eq, n2_eq', n2_lt, n2_le, n2_ge, n2_gt, ↓reduceIte, ite_self, Nat.reduceEqDiff, Nat.reduceAdd, Nat.reduceMul, Nat.reduceSub, Nat.reduceLT, Nat.reduceLeDiff, Nat.not_lt_zero, Nat.zero_le, if_true, if_false, ite_true, ite_false, true_and, and_true, false_and, and_false, true_implies, false_implies, implies_true, not_true_eq_false, not_false_eq_true, eq_self, true_or, or_true, false_or, or_false, and_self, reduceCtorEq, forall_const]
    refine hQ _ ⟨⟨k + 1, by omega, rfl, (qw.trans hN).congr (fun c => ?_)⟩, by simp (disch := omega) only [eq, o_le, o_leL, o_leR, o_lt, o_ltL, o_ltR, o_eq, o_eqL, o_eqR, o_cl, o_add, o_addL, o_addR, o_mul, o_mulL, o_mulR, o_sub, o_subR, o_0le, o_lt0, o_ixo, n1_eq, n1_eq', n1_lt, n1_le, n1_ge, n1_gt, n2_eq, n2_eq', n2_lt, n2_le, n2_ge, n2_gt, ↓reduceIte, ite_self, Nat.reduceEqDiff, Nat.reduceAdd, Nat.reduceMul, Nat.reduceSub, Nat.reduceLT, Nat.reduceLeDiff, Nat.not_lt_zero, Nat.zero_le, if_true, if_false, ite_true, ite_false, true_and, and_true, false_and, and_false, true_implies, false_implies, implies_true, not_true_eq_false, not_false_eq_true, eq_self, true_or, or_true, false_or, or_false, and_self, reduceCtorEq, forall_const]; omega⟩
    rw [ex_succ, or_assoc]
  refine Wo.mono w2 ?_
  intro q qw
  have sr := qw.1.src Rcm_src
  have g65 : q.2.1 65 m = M0.1 65 m := by rw [sr.1 65 (by omega) (by omega)]
  have g64 : q.2.1 64 m = M0.1 64 m := by rw [sr.1 64 (by omega) (by omega)]
  have aKe : ∀ c, aK M0 kc m c ↔ (∃ i, i < s ∧ gK kc (M0.1 71 (60 * m + i)) (M0.1 72 (60 * m + i)) c) ∨ ∃ i, i < s2 ∧ c < kc ∧ M0.1 74 (24 * m + 4 * i + 3) = Int32.ofNat c := by
    intro c
    unfold aK
    rw [hz, v20, o_cl s2 (by omega)]
  by_cases c2 : M0.1 65 m = -2
  · simp (disch := omega) only [W_some, W_none, W_bind, W_ite, W_ocz, W_lt, m24, g65, c2, o_le, o_leL, o_leR, o_lt, o_ltL, o_ltR, o_eq, o_eqL, o_eqR, o_cl, o_add, o_addL, o_addR, o_mul, o_mulL, o_mulR, o_sub, o_subR, o_0le, o_lt0, o_ixo, n1_eq, n1_eq', n1_lt, n1_le, n1_ge, n1_gt, n2_eq, n2_eq', n2_lt, n2_le, n2_ge, n2_gt, ↓reduceIte, ite_self, Nat.reduceEqDiff, Nat.reduceAdd, Nat.reduceMul, Nat.reduceSub, Nat.reduceLT, Nat.reduceLeDiff, Nat.not_lt_zero, Nat.zero_le, if_true, if_false, ite_true, ite_false, true_and, and_true, false_and, and_false, true_implies, false_implies, implies_true, not_true_eq_false, not_false_eq_true, eq_self, true_or, or_true, false_or, or_false, and_self, reduceCtorEq, forall_const]
    exact qw.congr (fun c => by rw [aKe])
  · obtain ⟨N, eN, hN⟩ := wantClass_ok h qw.1 qw.2.2.1 qw.2.2.2.2.2.1 (M0.1 64 m)
    simp (disch := omega) only [W_some, W_none, W_bind, W_ite, W_ocz, W_lt, m24, g65, c2, g64, eN, o_le, o_leL, o_leR, o_lt, o_ltL, o_ltR, o_eq, o_eqL, o_eqR, o_cl, o_add, o_addL, o_addR, o_mul, o_mulL, o_mulR, o_sub, o_subR, o_0le, o_lt0, o_ixo, n1_eq, n1_eq', n1_lt, n1_le, n1_ge, n1_gt, n2_eq, n2_eq', n2_lt, n2_le, n2_ge, n2_gt, ↓reduceIte, ite_self, Nat.reduceEqDiff, Nat.reduceAdd, Nat.reduceMul, Nat.reduceSub, Nat.reduceLT, Nat.reduceLeDiff, Nat.not_lt_zero, Nat.zero_le, if_true, if_false, ite_true, ite_false, true_and, and_true, false_and, and_false, true_implies, false_implies, implies_true, not_true_eq_false, not_false_eq_true, eq_self, true_or, or_true, false_or, or_false, and_self, reduceCtorEq, forall_const]
    exact (qw.trans hN).congr (fun c => by rw [aKe]; grind)
