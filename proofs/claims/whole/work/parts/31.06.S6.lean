/-! S6 -/
def newT (T : Nat → Nat) (A rc : Nat) : Nat → Nat := fun b => if b = A then 100 + 16 * rc else if b = A + 1 then 107 + 16 * rc else if b = A + 2 then 108 + 16 * rc else if b = A + 3 then 110 + 16 * rc else if b = A + 4 then 111 + 16 * rc else if b = A + 5 then 112 + 16 * rc else if b = A + 6 then 113 + 16 * rc else T b
theorem newT_old {T : Nat → Nat} {A rc b : Nat} (h : b < A) : newT T A rc b = T b := by
  unfold newT
  rw [if_neg (by omega), if_neg (by omega), if_neg (by omega), if_neg (by omega), if_neg (by omega), if_neg (by omega), if_neg (by omega)]
set_option maxRecDepth 20000 in
set_option maxHeartbeats 4000000 in
theorem RS_method {X : XS} {M : MS} {T : Nat → Nat} {kc rc : Nat} (h : RSc X M T kc rc) (ht : TG T) (x y z u v t : Int32) : Wo (f_P_method x y z u v t X) (fun p => Wo (f_M_method x y z u v t M) (fun q => p.1 = q.1 ∧ ∃ T' rc', RSc p.2 q.2 T' kc rc' ∧ SrcOnly T T' X p.2 M q.2)) := by
  have h0 := h
  obtain ⟨hk, hr, e1, e2, hn, hm⟩ := h
  obtain ⟨k1, k2, k3, k4⟩ := hk
  have hR : ∀ k, k < rc → ∃ a, X.2.1 2 k = some a ∧ xT X a = some (12, 0) ∧ X.1 a 2 = M.1 66 k ∧ X.1 a 3 = M.1 67 k ∧ X.1 a 4 = M.1 68 k := by
    intro k hk
    obtain ⟨a, f, ra, rv⟩ := hm k hk
    exact ⟨a, ra.1, ra.2.1, rv.2.2.1, rv.2.2.2.1, rv.2.2.2.2.1⟩
  obtain ⟨mp, mn⟩ := methodM_sym (x := x) (y := y) (z := z) (u := u) (v := v) (t := t) k1 hr k3 e2
  by_cases hy : y = -2 ∨ ∃ n, n < 8 ∧ y = Int32.ofNat n
  case neg =>
    have hy2 : ¬ (y = -2 ∨ 0 ≤ y ∧ y ≤ 7) := by
      intro h
      rcases h with h | h
      · exact hy (Or.inl h)
      · obtain ⟨k, hk, e⟩ := toNle (n := 7) (by omega) h.1 h.2
        exact hy (Or.inr ⟨k, by omega, e⟩)
    rw [mn (fun h => hy2 h.2.1)]
    have hp : f_P_method x y z u v t X = some (-1, X) := by
      have h1 : ¬ y = -2 := fun h => hy2 (Or.inl h)
      have h2 : ¬ (0 ≤ y ∧ y ≤ 7) := fun h => hy2 (Or.inr h)
      unfold f_P_method f_Source_addRoutine
      simp (disch := omega) only [h1, h2, Option.bind_some, o_le, o_leL, o_leR, o_lt, o_ltL, o_ltR, o_eq, o_eqL, o_eqR, o_cl, o_add, o_addL, o_addR, o_mul, o_mulL, o_mulR, o_sub, o_subR, o_0le, o_lt0, o_ixo, n1_eq, n1_eq', n1_lt, n1_le, n1_ge, n1_gt, n2_eq, n2_eq', n2_lt, n2_le, n2_ge, n2_gt, ↓reduceIte, ite_self, Nat.reduceEqDiff, Nat.reduceAdd, Nat.reduceMul, Nat.reduceSub, Nat.reduceLT, Nat.reduceLeDiff, Nat.not_lt_zero, Nat.zero_le, if_true, if_false, ite_true, ite_false, true_and, and_true, false_and, and_false, true_implies, false_implies, implies_true, not_true_eq_false, not_false_eq_true, eq_self, true_or, or_true, false_or, or_false, and_self, reduceCtorEq, forall_const]
    rw [hp, W_some, W_some]
    exact ⟨rfl, T, rc, h0, SrcOnly.refl ht⟩
  have hy7 : y = -2 ∨ 0 ≤ y ∧ y ≤ 7 := by
    rcases hy with h | ⟨n, hn, e⟩
    · exact Or.inl h
    · refine Or.inr ?_
      subst e
      have : n ≤ 7 := by omega
      simp (disch := omega) only [this, o_le, o_leL, o_leR, o_lt, o_ltL, o_ltR, o_eq, o_eqL, o_eqR, o_cl, o_add, o_addL, o_addR, o_mul, o_mulL, o_mulR, o_sub, o_subR, o_0le, o_lt0, o_ixo, n1_eq, n1_eq', n1_lt, n1_le, n1_ge, n1_gt, n2_eq, n2_eq', n2_lt, n2_le, n2_ge, n2_gt, ↓reduceIte, ite_self, Nat.reduceEqDiff, Nat.reduceAdd, Nat.reduceMul, Nat.reduceSub, Nat.reduceLT, Nat.reduceLeDiff, Nat.not_lt_zero, Nat.zero_le, if_true, if_false, ite_true, ite_false, true_and, and_true, false_and, and_false, true_implies, false_implies, implies_true, not_true_eq_false, not_false_eq_true, eq_self, true_or, or_true, false_or, or_false, and_self, reduceCtorEq, forall_const]
  by_cases hx : ∃ c, c < kc ∧ x = Int32.ofNat c
  case neg =>
    rw [mn (fun h => hx h.1)]
    have ik := isKind_iff k1 k2 x
    have hp : f_P_method x y z u v t X = some (-1, X) := by
      unfold f_P_method f_Source_addRoutine
      simp (disch := omega) only [ik, hx, Option.bind_some, o_le, o_leL, o_leR, o_lt, o_ltL, o_ltR, o_eq, o_eqL, o_eqR, o_cl, o_add, o_addL, o_addR, o_mul, o_mulL, o_mulR, o_sub, o_subR, o_0le, o_lt0, o_ixo, n1_eq, n1_eq', n1_lt, n1_le, n1_ge, n1_gt, n2_eq, n2_eq', n2_lt, n2_le, n2_ge, n2_gt, ↓reduceIte, ite_self, Nat.reduceEqDiff, Nat.reduceAdd, Nat.reduceMul, Nat.reduceSub, Nat.reduceLT, Nat.reduceLeDiff, Nat.not_lt_zero, Nat.zero_le, if_true, if_false, ite_true, ite_false, true_and, and_true, false_and, and_false, true_implies, false_implies, implies_true, not_true_eq_false, not_false_eq_true, eq_self, true_or, or_true, false_or, or_false, and_self, reduceCtorEq, forall_const]
    rw [hp, W_some, W_some]
    exact ⟨rfl, T, rc, h0, SrcOnly.refl ht⟩
  have hx0 := hx
  obtain ⟨c, hc, ex⟩ := hx
  obtain ⟨r, b, f1, f2, f3⟩ := fresh_sym (c := c) k1 hr k2 e1 hn hR hc y z u v hy
  rw [← ex] at f1 f3
  by_cases g : (∃ c, c < kc ∧ x = Int32.ofNat c) ∧ (y = -2 ∨ 0 ≤ y ∧ y ≤ 7) ∧ (0 ≤ z ∧ z ≤ 4) ∧ (0 ≤ v ∧ v ≤ 2) ∧ rc < 24 ∧ (0 ≤ u ∧ u ≤ ((1 : Int32) <<< ((z : Int32) &&& 31)) - 1) ∧ (if y = -2 then z else z + 1) ≤ t ∧ t ≤ 12 ∧ ∀ j, j < rc → ¬ Clash M x y z u v j
  case neg =>
    rw [mn g, addRoutine_neg k1 hr k2 e1 x y z u v t (fun _ => f1) f2 (fun h => g ⟨h.1, h.2.1, h.2.2.1, h.2.2.2.1, h.2.2.2.2.1, h.2.2.2.2.2.1, h.2.2.2.2.2.2.1, h.2.2.2.2.2.2.2.1, f3.mp ⟨h.2.2.2.2.2.2.2.2.1, h.2.2.2.2.2.2.2.2.2⟩⟩), W_some, W_some]
    exact ⟨rfl, T, rc, h0, SrcOnly.refl ht⟩
  rw [mp g]
  obtain ⟨_, _, hz, hv, hrc, hu, htt, ht12, hcl⟩ := g
  obtain ⟨r1, b1⟩ := f3.mpr hcl
  rw [r1, ex] at f1
  rw [b1] at f2
  rw [ex] at hcl ⊢
  refine Wo.mono (addRoutine_pos k1 hrc k2 e1 y z u v t hc f1 f2 hy hz hv hu ⟨htt, ht12⟩) ?_
  intro p hp
  obtain ⟨X1, X2, X3, ⟨n1, n2, n3, n4, n5⟩, eX2, hX3, ep⟩ := hp
  rw [W_some]
  subst ep
  refine ⟨rfl, newT T (xA X) rc, rc + 1, ?_⟩
  have hge := xA130 X
  have g2 : X3.2 = X2.2 := by
    rcases hX3 with ⟨_, e⟩ | ⟨n, _, _, ⟨_, e⟩ | ⟨_, e⟩⟩ <;> rw [e] <;> rfl
  generalize hX' : xw X3 1 2 (Int32.ofNat (rc + 1)) = X'
  have x2 : ∀ b j, X'.2.1 b j = if b = 2 ∧ j = rc then some (xA X) else X1.2.1 b j := by
    intro b j
    have : X'.2 = X2.2 := by rw [← hX']; exact g2
    rw [this, eX2, xp2]
    simp only [xw2]
  have x3 : ∀ b, xT X' b = xT X1 b := by
    intro b
    have : X'.2.2 = X1.2.2 := by
      have : X'.2 = X2.2 := by rw [← hX']; exact g2
      rw [this, eX2]
      rfl
    unfold xT hT
    rw [this]
  have xa : xA X' = xA X + 7 := by
    have : X'.2.2 = X1.2.2 := by
      have : X'.2 = X2.2 := by rw [← hX']; exact g2
      rw [this, eX2]
      rfl
    rw [← n1]
    unfold xA
    rw [this]
  have xo : ∀ b, b ≠ 1 → b ≠ 8 → b ≠ 9 → b ≠ xA X → X'.1 b = X1.1 b := by
    intro b h1 h8 h9 hb
    rw [← hX', xw_ne _ _ _ _ h1]
    have : X3.1 b = X2.1 b := by
      rcases hX3 with ⟨_, e⟩ | ⟨n, _, _, ⟨_, e⟩ | ⟨_, e⟩⟩ <;> rw [e]
      · rw [xw_ne _ _ _ _ h8]
      · rw [xw_ne _ _ _ _ h9, xw_ne _ _ _ _ h8]
    rw [this, eX2, xp1, xw_ne _ _ _ _ hb, xw_ne _ _ _ _ hb, xw_ne _ _ _ _ hb, xw_ne _ _ _ _ hb, xw_ne _ _ _ _ hb, xw_ne _ _ _ _ hb]
  have x1old : ∀ b, b < xA X → X1.1 b = X.1 b := by
    intro b hb
    funext j
    rw [n2, if_neg (by omega)]
  have p1old : ∀ b, b < xA X → X1.2.1 b = X.2.1 b := by
    intro b hb
    funext j
    rw [n3, if_neg (by omega), if_neg (by omega)]
  have t1old : ∀ b q, xT X b = some q → xT X' b = some q := by
    intro b q h
    have := xT_lt h
    rw [x3, n4, if_neg (by omega), if_neg (by omega), if_neg (by omega)]
    exact h
  have mo : Mw T (newT T (xA X) rc) X X' := ⟨by omega, fun b hb => newT_old hb, t1old⟩
  have acs : aSm X' ≤ aSm X + 500 := by
    have e : X'.2.2 = X.2.2 ++ [(12, 0), (0, 60), (0, 60), (0, 6), (0, 6), (0, 6), (0, 6)] := by
      have : X'.2 = X2.2 := by rw [← hX']; exact g2
      rw [this, eX2]
      exact n5
    rw [aSm_app e]
    simp only [List.map_cons, List.map_nil, List.sum_cons, List.sum_nil]
    omega
  have acw : aW X ≤ aW X' := by
    refine aW_mono (fun a f ha => ?_) t1old
    rw [x2, if_neg (by omega), p1old a (by omega)]
  have tg : TG (newT T (xA X) rc) := by
    intro a h1 h2 h3 h4 h5 h6 h7
    rw [newT_old (by omega)]
    exact ht a h1 h2 h3 h4 h5 h6 h7
  have xs : ∀ b, b < 130 → b ≠ 1 → b ≠ 8 → b ≠ 9 → X'.1 b = X.1 b := by
    intro b h h1 h8 h9
    rw [xo b h1 h8 h9 (by omega), x1old b (by omega)]
  have c1 : ∀ f, f ≠ 2 → X'.1 1 f = X.1 1 f := by
    intro f hf
    rw [← hX', xw1, if_neg (by omega)]
    have : X3.1 1 = X2.1 1 := by
      rcases hX3 with ⟨_, e⟩ | ⟨n, _, _, ⟨_, e⟩ | ⟨_, e⟩⟩ <;> rw [e]
      · rw [xw_ne _ _ _ _ (by omega)]
      · rw [xw_ne _ _ _ _ (by omega), xw_ne _ _ _ _ (by omega)]
    have hb : 1 ≠ xA X := by omega
    rw [this, eX2, xp1, xw_ne _ _ _ _ hb, xw_ne _ _ _ _ hb, xw_ne _ _ _ _ hb, xw_ne _ _ _ _ hb, xw_ne _ _ _ _ hb, xw_ne _ _ _ _ hb, x1old 1 (by omega)]
  have c12 : X'.1 1 2 = Int32.ofNat (rc + 1) := by rw [← hX', xw1, if_pos ⟨rfl, rfl⟩]
  have cA : ∀ j, X'.1 (xA X) j = if j = 5 then t else if j = 4 then v else if j = 3 then u else if j = 2 then z else if j = 1 then y else if j = 0 then Int32.ofNat c else 0 := by
    intro j
    rw [← hX', xw_ne _ _ _ _ (by omega)]
    have : X3.1 (xA X) = X2.1 (xA X) := by
      rcases hX3 with ⟨_, e⟩ | ⟨n, _, _, ⟨_, e⟩ | ⟨_, e⟩⟩ <;> rw [e]
      · rw [xw_ne _ _ _ _ (by omega)]
      · rw [xw_ne _ _ _ _ (by omega), xw_ne _ _ _ _ (by omega)]
    rw [this, eX2, xp1]
    have z0 : X1.1 (xA X) j = 0 := by rw [n2, if_pos ⟨Nat.le_refl _, by omega⟩]
    simp only [xw1, true_and, z0]
  have c8 : (y = -2 ∧ X'.1 8 = X.1 8 ∧ X'.1 9 = X.1 9) ∨ ∃ n, n < 8 ∧ y = Int32.ofNat n ∧ (∀ j, X'.1 8 j = if j = c * 8 + n then Int32.ofNat rc else X.1 8 j) ∧ (∀ j, X'.1 9 j = if X.1 9 n = -1 ∧ j = n then Int32.ofNat rc else X.1 9 j) := by
    have o8 : X2.1 8 = X.1 8 := by
      have hb : 8 ≠ xA X := by omega
      rw [eX2, xp1, xw_ne _ _ _ _ hb, xw_ne _ _ _ _ hb, xw_ne _ _ _ _ hb, xw_ne _ _ _ _ hb, xw_ne _ _ _ _ hb, xw_ne _ _ _ _ hb, x1old 8 (by omega)]
    have o9 : X2.1 9 = X.1 9 := by
      have hb : 9 ≠ xA X := by omega
      rw [eX2, xp1, xw_ne _ _ _ _ hb, xw_ne _ _ _ _ hb, xw_ne _ _ _ _ hb, xw_ne _ _ _ _ hb, xw_ne _ _ _ _ hb, xw_ne _ _ _ _ hb, x1old 9 (by omega)]
    rw [← hX']
    rcases hX3 with ⟨e0, e⟩ | ⟨n, e0, e00, ⟨en, e⟩ | ⟨en, e⟩⟩
    · refine Or.inl ⟨e0, ?_, ?_⟩ <;> rw [xw_ne _ _ _ _ (by omega), e]
      · exact o8
      · exact o9
    · refine Or.inr ⟨n, e0, e00, ?_, ?_⟩ <;> intro j <;> rw [xw_ne _ _ _ _ (by omega), e, xw1]
      · simp only [true_and, o8]
      · rw [if_neg (by omega), if_neg (fun h => en h.1), o9]
    · refine Or.inr ⟨n, e0, e00, ?_, ?_⟩ <;> intro j <;> rw [xw_ne _ _ _ _ (by omega), e, xw1, xw1]
      · rw [if_neg (by omega)]
        simp only [true_and, o8]
      · have q : ¬ (9 = 8 ∧ j = c * 8 + n) := by omega
        simp only [true_and, en, o9, q, if_false]
  generalize hM' : mw (mw (mw (mw (mw (mw (mw (mw (mw M 64 rc (Int32.ofNat c)) 65 rc y) 66 rc z) 67 rc u) 68 rc v) 69 rc t) 70 rc 0) 73 rc 0) 60 15 (Int32.ofNat (rc + 1)) = M'
  have mo1 : ∀ a j, (j ≠ rc ∨ a < 64 ∨ 73 < a ∨ a = 71 ∨ a = 72) → (a ≠ 60 ∨ j ≠ 15) → M'.1 a j = M.1 a j := by
    intro a j h1 h2
    rw [← hM']
    simp only [mw1]
    rw [if_neg (by omega), if_neg (by omega), if_neg (by omega), if_neg (by omega), if_neg (by omega), if_neg (by omega), if_neg (by omega), if_neg (by omega), if_neg (by omega)]
  have mnew : M'.1 64 rc = Int32.ofNat c ∧ M'.1 65 rc = y ∧ M'.1 66 rc = z ∧ M'.1 67 rc = u ∧ M'.1 68 rc = v ∧ M'.1 69 rc = t ∧ M'.1 70 rc = 0 ∧ M'.1 73 rc = 0 ∧ M'.1 60 15 = Int32.ofNat (rc + 1) := by
    rw [← hM']
    simp only [mw1]
    simp
  obtain ⟨w1, w2, w3, w4, w5, w6, w7, w8, w9⟩ := mnew
  refine ⟨⟨RSk_frame ⟨k1, k2, k3, k4⟩ (c1 1 (by omega)) (fun b h1 h2 => xs b (by omega) (by omega) (by omega) (by omega)) (mo1 60 3 (by omega) (by omega)) (fun b h1 h2 => funext fun j => mo1 b j (by omega) (by omega)), hrc, c12, w9, ?_, ?_⟩, mo, tg, ⟨by show xA X' ≤ _; omega, acs, acw⟩, ?_, ?_, ?_, ?_⟩
  · obtain ⟨s1, s2, s3, s4⟩ := hn
    have cc : ∀ d, d < 10 → (Int32.ofNat c = Int32.ofNat d) = (c = d) := fun d hd => o_eq c d (by omega) (by omega)
    have mm : ∀ a k, 64 ≤ a → a ≤ 68 → k < rc → M'.1 a k = M.1 a k := fun a k _ _ h => mo1 a k (by omega) (by omega)
    have ysp : y = -2 → ∀ n, n < 8 → ¬ y = Int32.ofNat n := by
      intro e n hn h
      rw [e, n2_eq' n (by omega)] at h
      exact h
    have yn : ∀ n n', n < 8 → n' < 8 → (Int32.ofNat n = Int32.ofNat n') = (n = n') := fun n n' h h' => o_eq n n' (by omega) (by omega)
    refine ⟨?_, ?_, ?_, ?_⟩
    · intro d n hd hn
      have old := s1 d n hd hn
      have lift : (¬ (c = d ∧ y = Int32.ofNat n)) → X'.1 8 (d * 8 + n) = X.1 8 (d * 8 + n) → ((X'.1 8 (d * 8 + n) = -1 ∧ ∀ k, k < rc + 1 → ¬ (M'.1 64 k = Int32.ofNat d ∧ M'.1 65 k = Int32.ofNat n)) ∨ ∃ k, k < rc + 1 ∧ X'.1 8 (d * 8 + n) = Int32.ofNat k ∧ M'.1 64 k = Int32.ofNat d ∧ M'.1 65 k = Int32.ofNat n) := by
        intro hne e8
        rw [e8]
        rcases old with ⟨o1, o2⟩ | ⟨k, o1, o2, o3, o4⟩
        · refine Or.inl ⟨o1, ?_⟩
          intro k hk
          by_cases ek : k = rc
          · subst ek
            rw [w1, w2, cc d hd]
            exact hne
          · rw [mm 64 k (by omega) (by omega) (by omega), mm 65 k (by omega) (by omega) (by omega)]
            exact o2 k (by omega)
        · refine Or.inr ⟨k, by omega, o2, ?_, ?_⟩
          · rw [mm 64 k (by omega) (by omega) o1]; exact o3
          · rw [mm 65 k (by omega) (by omega) o1]; exact o4
      rcases c8 with ⟨g0, g1, g2'⟩ | ⟨n0, g0, g1, g2', g3⟩
      · exact lift (fun h => ysp g0 n hn h.2) (by rw [g1])
      · by_cases e : d = c ∧ n = n0
        · obtain ⟨rfl, rfl⟩ := e
          refine Or.inr ⟨rc, by omega, ?_, w1, ?_⟩
          · rw [g2', if_pos rfl]
          · rw [w2]; exact g1
        · refine lift ?_ ?_
          · rw [g1, yn n0 n g0 hn]
            omega
          · rw [g2', if_neg (by omega)]
    · intro n hn
      have old := s2 n hn
      have lift : ¬ y = Int32.ofNat n → X'.1 9 n = X.1 9 n → ((X'.1 9 n = -1 ∧ ∀ k, k < rc + 1 → ¬ M'.1 65 k = Int32.ofNat n) ∨ ∃ k, k < rc + 1 ∧ X'.1 9 n = Int32.ofNat k ∧ M'.1 65 k = Int32.ofNat n ∧ ∀ j, j < k → ¬ M'.1 65 j = Int32.ofNat n) := by
        intro hne e9
        rw [e9]
        rcases old with ⟨o1, o2⟩ | ⟨k, o1, o2, o3, o4⟩
        · refine Or.inl ⟨o1, ?_⟩
          intro k hk
          by_cases ek : k = rc
          · subst ek
            rw [w2]
            exact hne
          · rw [mm 65 k (by omega) (by omega) (by omega)]
            exact o2 k (by omega)
        · refine Or.inr ⟨k, by omega, o2, ?_, ?_⟩
          · rw [mm 65 k (by omega) (by omega) o1]; exact o3
          · intro j hj
            rw [mm 65 j (by omega) (by omega) (by omega)]; exact o4 j hj
      rcases c8 with ⟨g0, g1, g2'⟩ | ⟨n0, g0, g1, g2', g3⟩
      · exact lift (ysp g0 n hn) (by rw [g2'])
      · by_cases e : n = n0
        · subst e
          rw [g3]
          rcases old with ⟨o1, o2⟩ | ⟨k, o1, o2, o3, o4⟩
          · rw [if_pos ⟨o1, rfl⟩]
            refine Or.inr ⟨rc, by omega, rfl, by rw [w2]; exact g1, ?_⟩
            intro j hj
            rw [mm 65 j (by omega) (by omega) hj]
            exact o2 j hj
          · have ne : ¬ X.1 9 n = -1 := by rw [o2, n1_eq k (by omega)]; exact not_false
            rw [if_neg (fun h => ne h.1)]
            refine Or.inr ⟨k, by omega, o2, ?_, ?_⟩
            · rw [mm 65 k (by omega) (by omega) o1]; exact o3
            · intro j hj
              rw [mm 65 j (by omega) (by omega) (by omega)]; exact o4 j hj
        · refine lift ?_ ?_
          · rw [g1, yn n0 n g0 hn]
            omega
          · rw [g3, if_neg (by omega)]
    · intro j k hj hk e1' e2'
      by_cases ej : j = rc
      · by_cases ek : k = rc
        · subst ej
          subst ek
          exact ⟨rfl, rfl, rfl, fun _ => rfl⟩
        · subst ej
          have hkl : k < j := by omega
          rw [w2, mm 65 k (by omega) (by omega) hkl] at e1'
          rw [w2] at e2'
          have cl := hcl k hkl
          unfold Clash at cl
          rw [w1, w3, w4, w5, mm 64 k (by omega) (by omega) hkl, mm 66 k (by omega) (by omega) hkl, mm 67 k (by omega) (by omega) hkl, mm 68 k (by omega) (by omega) hkl]
          grind
      · by_cases ek : k = rc
        · subst ek
          have hjl : j < k := by omega
          rw [w2, mm 65 j (by omega) (by omega) hjl] at e1'
          rw [mm 65 j (by omega) (by omega) hjl] at e2'
          have cl := hcl j hjl
          unfold Clash at cl
          rw [w1, w3, w4, w5, mm 64 j (by omega) (by omega) hjl, mm 66 j (by omega) (by omega) hjl, mm 67 j (by omega) (by omega) hjl, mm 68 j (by omega) (by omega) hjl]
          grind
        · have hjl : j < rc := by omega
          have hkl : k < rc := by omega
          rw [mm 65 j (by omega) (by omega) hjl] at e1' e2'
          rw [mm 65 k (by omega) (by omega) hkl] at e1'
          rw [mm 64 j (by omega) (by omega) hjl, mm 66 j (by omega) (by omega) hjl, mm 67 j (by omega) (by omega) hjl, mm 68 j (by omega) (by omega) hjl, mm 64 k (by omega) (by omega) hkl, mm 66 k (by omega) (by omega) hkl, mm 67 k (by omega) (by omega) hkl, mm 68 k (by omega) (by omega) hkl]
          exact s3 j k hjl hkl e1' e2'
    · intro k hk
      by_cases ek : k = rc
      · subst ek
        rw [w2]
        exact hy
      · rw [mm 65 k (by omega) (by omega) (by omega)]
        exact s4 k (by omega)
  · intro m hm'
    by_cases em : m = rc
    · subst em
      have xp' : ∀ j, X'.2.1 (xA X) j = if j = 7 then some (xA X + 1) else if j = 8 then some (xA X + 2) else if j = 10 then some (xA X + 3) else if j = 11 then some (xA X + 4) else if j = 12 then some (xA X + 5) else if j = 13 then some (xA X + 6) else none := by
        intro j
        rw [x2, if_neg (by omega), n3, if_pos rfl]
      refine ⟨xA X, fun k => if k = 7 then xA X + 1 else if k = 8 then xA X + 2 else xA X + k - 7, ⟨?_, ?_, ?_, ?_, ?_⟩, ?_⟩
      · rw [x2, if_pos ⟨rfl, rfl⟩]
      · rw [x3, n4, if_pos rfl]
      · unfold newT; rw [if_pos rfl]
      · intro k hk
        rw [xp', x3, n4]
        unfold newT
        rcases hk with rfl | rfl <;> simp <;> omega
      · intro k h1 h2
        rw [xp', x3, n4]
        unfold newT
        have : k = 10 ∨ k = 11 ∨ k = 12 ∨ k = 13 := by omega
        rcases this with rfl | rfl | rfl | rfl <;> simp <;> omega
      · unfold RSv
        rw [cA, cA, cA, cA, cA, cA, cA, cA, w1, w2, w3, w4, w5, w6, w7, w8]
        refine ⟨rfl, rfl, rfl, rfl, rfl, rfl, rfl, rfl, ⟨c, hc, rfl⟩, hz, hu, hv, htt, ht12, ⟨0, by omega, rfl, fun i hi => absurd hi (Nat.not_lt_zero i)⟩, ⟨0, by omega, rfl, fun i hi => absurd hi (Nat.not_lt_zero i)⟩⟩
    · have hml : m < rc := by omega
      refine RSr_frame (hm m hml) (Nat.le_refl _) ?_ ?_ mo ?_ ?_ ?_
      · intro b hb hs
        have q := fun k h1 h2 h3 h4 h5 h6 h7 => ht k h1 h2 h3 h4 h5 h6 h7
        have d1 : b ≠ 1 := by intro e; subst e; have := ht 1 (by omega) (by omega) (by omega) (by omega) (by omega) (by omega) (by omega); omega
        have d8 : b ≠ 8 := by intro e; subst e; have := ht 8 (by omega) (by omega) (by omega) (by omega) (by omega) (by omega) (by omega); omega
        have d9 : b ≠ 9 := by intro e; subst e; have := ht 9 (by omega) (by omega) (by omega) (by omega) (by omega) (by omega) (by omega); omega
        have d2 : b ≠ 2 := by intro e; subst e; have := ht 2 (by omega) (by omega) (by omega) (by omega) (by omega) (by omega) (by omega); omega
        refine ⟨?_, ?_⟩
        · rw [xo b d1 d8 d9 (by omega), x1old b hb]
        · funext j
          rw [x2, if_neg (by omega), p1old b hb]
      · rw [x2, if_neg (by omega), p1old 2 (by omega)]
      · intro a ha
        exact mo1 a m (by omega) (by omega)
      · intro i hi
        exact ⟨mo1 71 _ (by omega) (by omega), mo1 72 _ (by omega) (by omega)⟩
      · intro i hi
        exact mo1 74 _ (by omega) (by omega)
  · intro b hb hs
    unfold SrcT at hs
    have d1 : b ≠ 1 := by intro e; subst e; have := ht 1 (by omega) (by omega) (by omega) (by omega) (by omega) (by omega) (by omega); omega
    have d8 : b ≠ 8 := by intro e; subst e; have := ht 8 (by omega) (by omega) (by omega) (by omega) (by omega) (by omega) (by omega); omega
    have d9 : b ≠ 9 := by intro e; subst e; have := ht 9 (by omega) (by omega) (by omega) (by omega) (by omega) (by omega) (by omega); omega
    have d2 : b ≠ 2 := by intro e; subst e; have := ht 2 (by omega) (by omega) (by omega) (by omega) (by omega) (by omega) (by omega); omega
    refine ⟨?_, ?_⟩
    · show X'.1 b = X.1 b
      rw [xo b d1 d8 d9 (by omega), x1old b hb]
    · show X'.2.1 b = X.2.1 b
      funext j
      rw [x2, if_neg (by omega), p1old b hb]
  · intro a ha
    funext j
    exact mo1 a j (by omega) (by omega)
  · intro f _ hf
    exact mo1 60 f (by omega) (by omega)
  · show M'.2 = M.2
    rw [← hM']
    rfl
